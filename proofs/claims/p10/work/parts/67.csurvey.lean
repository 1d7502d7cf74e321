-- deps: 61 66

theorem fl_s {f : Nat → Int64} {i : Nat} {x : Int64} (h : ∀ t, t < i → f t = x) : ∀ t, t < i + 1 → vp_updL f i x t = x := by
  intro t ht
  by_cases e : t = i
  · rw [e, pk_uLs]
  · rw [pk_uLn e]
    exact h t (by omega)
theorem cz_up {pre post : List rwT} {x y : rwT} {md C : Nat} (h : cz (pre ++ x :: post) + md = C) (h1 : x.2.2.1 12 = 0) (h2 : y.2.2.1 12 = 1) : cz (pre ++ y :: post) + (md + 1) = C := by
  have h3 := cz_less (pre := pre) (post := post) h1 h2
  omega
theorem rup_tst {rs rs1 rs2 : List rwT} (h1 : rup rs rs1 tstP) (h2 : rup rs1 rs2 tstP) : rup rs rs2 tstP := by
  refine ⟨h2.1.trans h1.1, fun k x hx => ?_⟩
  obtain ⟨y, hy, e1, ⟨a1, a2, a3, a4, a5, a6, a7, a8⟩, b1, b2, b3⟩ := h1.2 k x hx
  obtain ⟨z, hz, f1, ⟨c1, c2, c3, c4, c5, c6, c7, c8⟩, d1, d2, d3⟩ := h2.2 k y hy
  exact ⟨z, hz, f1.trans e1, ⟨c1.trans a1, c2.trans a2, c3.trans a3, c4.trans a4, c5.trans a5, c6.trans a6, c7.trans a7, c8.trans a8⟩, d1.trans b1, d2.trans b2, d3.trans b3⟩
def idq (rs : List rwT) (i : Nat) : Bool := match rs[i]? with
  | some x => decide (x.2.2.1 12 = 0)
  | none => false
theorem idq_iff {rs : List rwT} {i : Nat} {x : rwT} (h : rs[i]? = some x) : idq rs i = true ↔ x.2.2.1 12 = 0 := by
  unfold idq
  rw [h]
  exact decide_eq_true_iff
theorem or01a {x : Int32} (h : x = 0 ∨ x = 1) : x ||| 1 = 0 ∨ x ||| 1 = 1 := by
  rcases h with rfl | rfl <;> decide
theorem or01b {x : Int32} (h : x = 0 ∨ x = 1) : x ||| 0 = 0 ∨ x ||| 0 = 1 := by
  rcases h with rfl | rfl <;> decide
set_option maxHeartbeats 4000000 in
set_option maxRecDepth 100000 in
theorem c_fill (l : Launch) (D : va_G) (cy : Nat → ClassId) (e : Nat → Nat)  (a0 : Nat) (n : Nat) (f : Nat → Int64) (x : Int64) (sz : Nat) (hn : n < 65536) : Met l yJ7_fill_d0a16 wsJ7_fill_d0a16 ({ frames := 0, cells := 0, slots := 0, locals := 0 }) (va_Pc [.ref a0, .long x] (mt_B D cy e [(a0, .inl (cy 2, n, .inr (.inl f)))] sz)) (va_Qv (fun (f2 : (Nat → Int64)) => ∀ t, t < n → f2 t = x) (mt_Q D (fun f2 => [(a0, .inl (cy 2, n, .inr (.inl f2)))]) (va_A [(a0, .inl (cy 2, n, .inr (.inl f)))] sz)) (va_A [(a0, .inl (cy 2, n, .inr (.inl f)))] sz)) (0) (0) (va_A [(a0, .inl (cy 2, n, .inr (.inl f)))] sz) := by
  refine Met.ofW (cc := cJ7_fill_d0a16) (maxL := 5) (ret := none) (by decide) rfl ?_
  intro p ev s m args below meth c s₁ B hml hv
  obtain ⟨rfl, hsz, hP, hK, hD0, hG⟩ := hv
  have hx := B.exec
  have hb := B.bytes
  have hr := B.returns
  have hts := atoms_spec (ws := wsJ7_fill_d0a16) B.pre
  have hown : s.vm.findClass RJ7 = some m.cls := findClass_of_methodNamed B.named
  have hlocks := B.notSynchronized
  subst hsz
  have hD := hD0.self (sz := s.heap.size)
  generalize hAe : va_A [(a0, .inl (cy 2, n, .inr (.inl f)))] s.heap.size = A at hD hG ⊢
  have hA : ∀ q : Nat, s.heap.size ≤ q → A q := fun q h => by rw [← hAe]; exact Or.inr h
  have hS : va_S A s.heap s.heap [] := va_S.rf
  have hP : va_P D vwCl [(a0, .inl (cy 2, n, .inr (.inl f)))] s.heap := hP
  have hl := lv_entry ([.ref a0, .long x]) (n := 5) (Nat.le_of_ble_eq_true rfl)
  rw [lg_entry_eq]
  generalize (lg_sl ([.ref a0, .long x]) ++ List.replicate (5 - (lg_sl ([.ref a0, .long x])).length) Slot.unset).toArray = ls at hl ⊢
  have hl : lv_has ls 5 [(0, .ref a0), (1, .long x)] := hl
  refine lv_iconst (v := 0) hx hb dJ7_fill_d0a16_0 (by decide +kernel) ?_
  refine lv_topi (fun x_1 ex_1 => ?_)
  obtain rfl : x_1 = nI 0 := by rw [ex_1]; exact nI_0.symm
  refine lv_istore_n (lv' := [(3, .int (nI 0)), (0, .ref a0), (1, .long x)]) hx hb dJ7_fill_d0a16_1 rfl hl (by decide) rfl (fun ls hl => ?_)
  refine lv_aload_n hx hb dJ7_fill_d0a16_2 rfl (lv_at hl 1 rfl) ?_
  refine va_alen hx hb hK hP 0 2 rfl rfl (v := nI n) rfl dJ7_fill_d0a16_3 ?_
  refine lv_istore (lv' := [(4, .int (nI n)), (3, .int (nI 0)), (0, .ref a0), (1, .long x)]) hx hb dJ7_fill_d0a16_4 hl (by decide) rfl (fun ls hl => ?_)
  refine lp_W (σ := Nat × (Nat → Int64)) (Wf := fun H locs ls => W p l ev _ s m _ below meth c H locs (0) (0) _ (F0 m 6 ls [])) (fun zz9 H locs ls => match zz9 with | (i, f1) => va_P D vwCl [(a0, .inl (cy 2, n, .inr (.inl f1)))] H ∧ va_D A [(a0, .inl (cy 2, n, .inr (.inl f1)))] ∧ va_S A s.heap H locs ∧ lv_has ls 5 [(4, .int (nI n)), (3, .int (nI i)), (0, .ref a0), (1, .long x)] ∧ (i ≤ n ∧ ∀ t, t < i → f1 t = x)) (fun zz9 => match zz9 with | (i, f1) => n - i) ?_ (0, f) _ _ ls ⟨hP, hD, hS, lv_sub hl [0, 1, 2, 3] rfl, ⟨Nat.zero_le _, fun t ht => absurd ht (Nat.not_lt_zero _)⟩⟩
  intro zz9 H locs ls hI ih
  obtain ⟨i, f1⟩ := zz9
  obtain ⟨hP, hD, hS, hl, hI⟩ := hI
  have ih6 := ih
  have hI6 := hI
  have hP : va_P D vwCl [(a0, .inl (cy 2, n, .inr (.inl f1)))] H := hP
  have hD : va_D A [(a0, .inl (cy 2, n, .inr (.inl f1)))] := hD
  have hl : lv_has ls 5 [(4, .int (nI n)), (3, .int (nI i)), (0, .ref a0), (1, .long x)] := hl
  obtain ⟨hI1, hI2⟩ := hI
  refine lv_iload_n hx hb dJ7_fill_d0a16_6 rfl (lv_at hl 1 rfl) ?_
  refine lv_iload hx hb dJ7_fill_d0a16_7 (lv_at hl 0 rfl) ?_
  refine lv_icmp_ge (tgt := 22) hx hb dJ7_fill_d0a16_9 (by decide) (fun c9 => ?_) (fun c9 => ?_)
  · have hge : n ≤ i := (nI_leI (by omega) (by omega)).mp c9
    have hP9 : va_P D vwCl [(a0, .inl (cy 2, n, .inr (.inl f1)))] H := hP.sub [0] rfl
    have hD9 : va_D A [(a0, .inl (cy 2, n, .inr (.inl f1)))] := hD.sub [0] (by decide) rfl
    refine W.widen (k := 0) (n := 0) (by omega) (by omega) ?_
    exact W.vret hx hb hr (fun t ht hW => ⟨⟨f1, rfl, fun t ht => hI2 t (by omega), by rw [ht]; exact hP9, hD9⟩, hS.F ht⟩) hS.2.2 dJ7_fill_d0a16_22
  · have hi : i < n := pk_nle (by omega) c9
    refine lv_aload_n hx hb dJ7_fill_d0a16_12 rfl (lv_at hl 2 rfl) ?_
    refine lv_iload_n hx hb dJ7_fill_d0a16_13 rfl (lv_at hl 1 rfl) ?_
    refine lv_lload_n hx hb dJ7_fill_d0a16_14 rfl (lv_at hl 3 rfl) ?_
    refine va_last hx hb hK hP hD hS 0 2 rfl rfl (vp_in_nI (by omega) (by omega)) dJ7_fill_d0a16_15 (fun H locs hP hD hS => ?_)
    have hP : va_P D vwCl [(a0, .inl (cy 2, n, .inr (.inl (vp_updL f1 (nI i).toNatClampNeg x))))] H := hP
    have hD : va_D A [(a0, .inl (cy 2, n, .inr (.inl (vp_updL f1 (nI i).toNatClampNeg x))))] := hD
    have ef_15 : (vp_updL f1 (nI i).toNatClampNeg x) = (vp_updL f1 i x) := by rw [nI_clamp (by omega)]
    rw [ef_15] at hP hD
    refine lv_iinc (v := nI (i + 1)) (lv' := [(3, .int (nI (i + 1))), (4, .int (nI n)), (0, .ref a0), (1, .long x)]) hx hb dJ7_fill_d0a16_16 hl (k := 1) rfl (nI_1 i) (by decide) rfl (fun ls hl => ?_)
    refine lv_goto (tgt := 6) hx hb dJ7_fill_d0a16_19 (by decide) ?_
    exact ih6 ((i + 1), (vp_updL f1 i x)) _ _ ls ⟨hP.sub [0] rfl, hD.sub [0] (by decide) rfl, hS, lv_sub hl [1, 0, 2, 3] rfl, ⟨by omega, fl_s hI2⟩⟩ (by (try dsimp only); omega)

set_option maxHeartbeats 4000000 in
set_option maxRecDepth 100000 in
theorem c_cover (l : Launch) (D : va_G) (cy : Nat → ClassId) (e : Nat → Nat)  (h0 : Nat) (tb : Nat) (us : Nat) (se : Nat) (co : Nat) (uc : Int32) (cf : Nat → Int64) (r0 : Nat) (aa : Nat) (x1 : Int32) (x2 : Int32) (x3 : Int32) (x4 : Int32) (x5 : Int32) (x6 : Int32) (x7 : Int32) (x8 : Int32) (x9 : Int32) (x10 : Int32) (x11 : Int32) (x12 : Int32) (fa : Nat → Int32) (on : Int64) (al : List Int32) (sz : Nat) (hx1 : x1 = nI al.length) (h8 : al.length ≤ 8) (hal : fp_seg fa 0 al) (har : ∀ y ∈ al, ∃ n, n < 32 ∧ y = nI n) : Met l yX4_cover wsX4_cover ({ frames := 1, cells := 0, slots := 0, locals := 21 }) (va_Pc [.ref h0, .ref r0, .long on] (mt_B D cy e [(h0, .inr (5, [.ref tb, .ref us, .int uc, .ref se, .ref co])), (co, .inl (cy 2, 32, .inr (.inl cf))), (r0, .inr (4, [.ref aa, .int x1, .int x2, .int x3, .int x4, .int x5, .int x6, .int x7, .int x8, .int x9, .int x10, .int x11, .int x12])), (aa, .inl (cy 1, 8, .inl fa))] sz)) (va_Qi (fun (r : Int32) (cf2 : (Nat → Int64)) => (r = 0 ∨ r = 1) ∧ (r = 1 ↔ ∃ a, a < 32 ∧ nI a ∈ al ∧ ¬ (on &&& (cf a ^^^ (-1))) = 0) ∧ ∀ a, a < 32 → cf2 a = if nI a ∈ al then cf a ||| on else cf a) (mt_Q D (fun cf2 => [(h0, .inr (5, [.ref tb, .ref us, .int uc, .ref se, .ref co])), (co, .inl (cy 2, 32, .inr (.inl cf2))), (r0, .inr (4, [.ref aa, .int x1, .int x2, .int x3, .int x4, .int x5, .int x6, .int x7, .int x8, .int x9, .int x10, .int x11, .int x12])), (aa, .inl (cy 1, 8, .inl fa))]) (va_A [(h0, .inr (5, [.ref tb, .ref us, .int uc, .ref se, .ref co])), (co, .inl (cy 2, 32, .inr (.inl cf))), (r0, .inr (4, [.ref aa, .int x1, .int x2, .int x3, .int x4, .int x5, .int x6, .int x7, .int x8, .int x9, .int x10, .int x11, .int x12])), (aa, .inl (cy 1, 8, .inl fa))] sz)) (va_A [(h0, .inr (5, [.ref tb, .ref us, .int uc, .ref se, .ref co])), (co, .inl (cy 2, 32, .inr (.inl cf))), (r0, .inr (4, [.ref aa, .int x1, .int x2, .int x3, .int x4, .int x5, .int x6, .int x7, .int x8, .int x9, .int x10, .int x11, .int x12])), (aa, .inl (cy 1, 8, .inl fa))] sz)) (0) (0) (va_A [(h0, .inr (5, [.ref tb, .ref us, .int uc, .ref se, .ref co])), (co, .inl (cy 2, 32, .inr (.inl cf))), (r0, .inr (4, [.ref aa, .int x1, .int x2, .int x3, .int x4, .int x5, .int x6, .int x7, .int x8, .int x9, .int x10, .int x11, .int x12])), (aa, .inl (cy 1, 8, .inl fa))] sz) := by
  refine Met.ofW (cc := cX4_cover) (maxL := 7) (ret := (some .boolean)) (by decide) rfl ?_
  intro p ev s m args below meth c s₁ B hml hv
  obtain ⟨rfl, hsz, hP, hK, hD0, hG⟩ := hv
  have hx := B.exec
  have hb := B.bytes
  have hr := B.returns
  have hts := atoms_spec (ws := wsX4_cover) B.pre
  have hown : s.vm.findClass RX4 = some m.cls := findClass_of_methodNamed B.named
  have hlocks := B.notSynchronized
  subst hsz
  have hD := hD0.self (sz := s.heap.size)
  generalize hAe : va_A [(h0, .inr (5, [.ref tb, .ref us, .int uc, .ref se, .ref co])), (co, .inl (cy 2, 32, .inr (.inl cf))), (r0, .inr (4, [.ref aa, .int x1, .int x2, .int x3, .int x4, .int x5, .int x6, .int x7, .int x8, .int x9, .int x10, .int x11, .int x12])), (aa, .inl (cy 1, 8, .inl fa))] s.heap.size = A at hD hG ⊢
  have hA : ∀ q : Nat, s.heap.size ≤ q → A q := fun q h => by rw [← hAe]; exact Or.inr h
  have hS : va_S A s.heap s.heap [] := va_S.rf
  have hP : va_P D vwCl [(h0, .inr (5, [.ref tb, .ref us, .int uc, .ref se, .ref co])), (co, .inl (cy 2, 32, .inr (.inl cf))), (r0, .inr (4, [.ref aa, .int x1, .int x2, .int x3, .int x4, .int x5, .int x6, .int x7, .int x8, .int x9, .int x10, .int x11, .int x12])), (aa, .inl (cy 1, 8, .inl fa))] s.heap := hP
  have iX3 : ∀ w ∈ wsX30, w ∈ wsX4_cover := fun w h => List.mem_cons_of_mem _ (List.mem_append_left _ (List.mem_append_right _ h))
  have iX4 : ∀ w ∈ wsX40, w ∈ wsX4_cover := fun w h => List.mem_cons_of_mem _ (List.mem_append_right _ h)
  have hl := lv_entry ([.ref h0, .ref r0, .long on]) (n := 7) (Nat.le_of_ble_eq_true rfl)
  rw [lg_entry_eq]
  generalize (lg_sl ([.ref h0, .ref r0, .long on]) ++ List.replicate (7 - (lg_sl ([.ref h0, .ref r0, .long on])).length) Slot.unset).toArray = ls at hl ⊢
  have hl : lv_has ls 7 [(0, .ref h0), (1, .ref r0), (2, .long on)] := hl
  refine lv_iconst (v := 0) hx hb dX4_cover_0 (by decide +kernel) ?_
  refine lv_istore (lv' := [(4, .int 0), (0, .ref h0), (1, .ref r0), (2, .long on)]) hx hb dX4_cover_1 hl (by decide) rfl (fun ls hl => ?_)
  refine lv_iconst (v := 0) hx hb dX4_cover_3 (by decide +kernel) ?_
  refine lv_topi (fun x_1 ex_1 => ?_)
  obtain rfl : x_1 = nI 0 := by rw [ex_1]; exact nI_0.symm
  refine lv_istore (lv' := [(5, .int (nI 0)), (4, .int 0), (0, .ref h0), (1, .ref r0), (2, .long on)]) hx hb dX4_cover_4 hl (by decide) rfl (fun ls hl => ?_)
  refine lp_W (σ := Nat × Int32 × (Nat → Int64)) (Wf := fun H locs ls => W p l ev _ s m _ below meth c H locs (0) (0) _ (F0 m 6 ls [])) (fun zz9 H locs ls => match zz9 with | (i, fz, c1) => va_P D vwCl [(h0, .inr (5, [.ref tb, .ref us, .int uc, .ref se, .ref co])), (co, .inl (cy 2, 32, .inr (.inl c1))), (r0, .inr (4, [.ref aa, .int x1, .int x2, .int x3, .int x4, .int x5, .int x6, .int x7, .int x8, .int x9, .int x10, .int x11, .int x12])), (aa, .inl (cy 1, 8, .inl fa))] H ∧ va_D A [(h0, .inr (5, [.ref tb, .ref us, .int uc, .ref se, .ref co])), (co, .inl (cy 2, 32, .inr (.inl c1))), (r0, .inr (4, [.ref aa, .int x1, .int x2, .int x3, .int x4, .int x5, .int x6, .int x7, .int x8, .int x9, .int x10, .int x11, .int x12])), (aa, .inl (cy 1, 8, .inl fa))] ∧ va_S A s.heap H locs ∧ lv_has ls 7 [(5, .int (nI i)), (4, .int fz), (0, .ref h0), (1, .ref r0), (2, .long on)] ∧ (i ≤ al.length ∧ cvI al on cf c1 fz i)) (fun zz9 => match zz9 with | (i, fz, c1) => al.length - i) ?_ (0, 0, cf) _ _ ls ⟨hP, hD, hS, lv_sub hl [0, 1, 2, 3, 4] rfl, ⟨Nat.zero_le _, cvI_0⟩⟩
  intro zz9 H locs ls hI ih
  obtain ⟨i, fz, c1⟩ := zz9
  obtain ⟨hP, hD, hS, hl, hI⟩ := hI
  have ih6 := ih
  have hI6 := hI
  have hP : va_P D vwCl [(h0, .inr (5, [.ref tb, .ref us, .int uc, .ref se, .ref co])), (co, .inl (cy 2, 32, .inr (.inl c1))), (r0, .inr (4, [.ref aa, .int x1, .int x2, .int x3, .int x4, .int x5, .int x6, .int x7, .int x8, .int x9, .int x10, .int x11, .int x12])), (aa, .inl (cy 1, 8, .inl fa))] H := hP
  have hD : va_D A [(h0, .inr (5, [.ref tb, .ref us, .int uc, .ref se, .ref co])), (co, .inl (cy 2, 32, .inr (.inl c1))), (r0, .inr (4, [.ref aa, .int x1, .int x2, .int x3, .int x4, .int x5, .int x6, .int x7, .int x8, .int x9, .int x10, .int x11, .int x12])), (aa, .inl (cy 1, 8, .inl fa))] := hD
  have hl : lv_has ls 7 [(5, .int (nI i)), (4, .int fz), (0, .ref h0), (1, .ref r0), (2, .long on)] := hl
  obtain ⟨hI1, hI2⟩ := hI
  refine lv_iload hx hb dX4_cover_6 (lv_at hl 0 rfl) ?_
  refine lv_aload_n hx hb dX4_cover_8 rfl (lv_at hl 3 rfl) ?_
  refine va_getN (D := D) (ci := 4) (v := .int x1) (C := RX3) (T := TX3) (N := 13) hx hb hts iX3 hown hK hP 2 rfl rfl 1 (by decide) (gl_N.f hG.gN 6 rfl) (fun _ h9 => h9) rfl dX4_cover_9 ?_
  refine lv_topi (fun x_2 ex_2 => ?_)
  obtain rfl : x_2 = nI al.length := by rw [ex_2]; exact hx1
  refine lv_icmp_ge (tgt := 83) hx hb dX4_cover_12 (by decide) (fun c12 => ?_) (fun c12 => ?_)
  · have hge : al.length ≤ i := (nI_leI (by omega) (by omega)).mp c12
    refine lv_iload hx hb dX4_cover_83 (lv_at hl 1 rfl) ?_
    have hP9 : va_P D vwCl [(h0, .inr (5, [.ref tb, .ref us, .int uc, .ref se, .ref co])), (co, .inl (cy 2, 32, .inr (.inl c1))), (r0, .inr (4, [.ref aa, .int x1, .int x2, .int x3, .int x4, .int x5, .int x6, .int x7, .int x8, .int x9, .int x10, .int x11, .int x12])), (aa, .inl (cy 1, 8, .inl fa))] H := hP.sub [0, 1, 2, 3] rfl
    have hD9 : va_D A [(h0, .inr (5, [.ref tb, .ref us, .int uc, .ref se, .ref co])), (co, .inl (cy 2, 32, .inr (.inl c1))), (r0, .inr (4, [.ref aa, .int x1, .int x2, .int x3, .int x4, .int x5, .int x6, .int x7, .int x8, .int x9, .int x10, .int x11, .int x12])), (aa, .inl (cy 1, 8, .inl fa))] := hD.sub [0, 1, 2, 3] (by decide) rfl
    refine W.widen (k := 0) (n := 0) (by omega) (by omega) ?_
    exact W.zret hx hb hr (by rcases hI2.1 with h9 | h9 <;> (rw [h9]; rfl)) (fun t ht hW => ⟨⟨_, c1, rfl, ⟨hI2.1, by unfold cvI at hI2; rw [List.take_of_length_le hge] at hI2; exact hI2.2⟩, by rw [ht]; exact hP9, hD9⟩, hS.F ht⟩) hS.2.2 dX4_cover_85
  · have hi : i < al.length := pk_nle (by omega) c12
    have hA0 := aat_al hx1 h8 hal hi
    obtain ⟨a, ha, hea⟩ := har _ (List.mem_of_getElem? hA0)
    have hai : al[i]? = some (nI a) := by rw [← hea]; exact hA0
    refine lv_aload_n hx hb dX4_cover_15 rfl (lv_at hl 3 rfl) ?_
    refine lv_iload hx hb dX4_cover_16 (lv_at hl 0 rfl) ?_
    refine pu_calli (va_runV (As := [.int (nI i)]) (rest := []) ⟨hx, hb, hml, hown, hts⟩ (c_Row_actAt l D cy e r0 aa x1 x2 x3 x4 x5 x6 x7 x8 x9 x10 x11 x12 fa (nI i) ) (cwV 1 hts gX4_cover_X3_actAt rfl rfl rfl (by decide +kernel) ⟨Nat.le_of_ble_eq_true rfl, Nat.le_of_ble_eq_true rfl⟩) (pu_preV hP hK hS hG [2, 3] rfl (q := (RX3, TX3, 13)) (ci := 4) (q0 := 2) rfl rfl) rfl rfl hl.1 rfl (lv_room (Nat.le_of_ble_eq_true rfl)) dX4_cover_18 ⟨(Nat.le_of_ble_eq_true rfl), (Nat.le_of_ble_eq_true rfl)⟩) hP hS (fun H locs hP hS => ?_)
    have hP : va_P D vwCl [(h0, .inr (5, [.ref tb, .ref us, .int uc, .ref se, .ref co])), (co, .inl (cy 2, 32, .inr (.inl c1))), (r0, .inr (4, [.ref aa, .int x1, .int x2, .int x3, .int x4, .int x5, .int x6, .int x7, .int x8, .int x9, .int x10, .int x11, .int x12])), (aa, .inl (cy 1, 8, .inl fa))] H := hP
    refine lv_topi (fun x_3 ex_3 => ?_)
    obtain rfl : x_3 = nI a := by rw [ex_3]; exact hea
    refine lv_istore (lv' := [(6, .int (nI a)), (5, .int (nI i)), (4, .int fz), (0, .ref h0), (1, .ref r0), (2, .long on)]) hx hb dX4_cover_21 hl (by decide) rfl (fun ls hl => ?_)
    refine lv_iload hx hb dX4_cover_23 (lv_at hl 0 rfl) ?_
    refine lv_if_lt (tgt := 77) hx hb dX4_cover_25 (by decide) (fun c25 => absurd c25 (nI_pos (by omega))) (fun _ => ?_)
    refine lv_iload hx hb dX4_cover_28 (lv_at hl 0 rfl) ?_
    refine lv_aload_n hx hb dX4_cover_30 rfl (lv_at hl 3 rfl) ?_
    refine va_get (D := D) (ci := 5) (v := .ref co) (C := RX4) (T := TX4) (N := 5) hx hb hts iX4 hown hK hP 0 rfl rfl 4 (by decide) (hts (.fieldLink RX4 19 "InterlockTables$Survey" "covered" "[J") (by decide +kernel)) (fun _ h9 => h9) rfl dX4_cover_31 ?_
    refine va_alen hx hb hK hP 1 2 rfl rfl (v := 32) rfl dX4_cover_34 ?_
    refine lv_icmp_ge (tgt := 77) hx hb dX4_cover_35 (by decide) (fun c35 => absurd c35 (nI_ge (a := a) (b := 32) ha (by decide))) (fun _ => ?_)
    refine lv_iload hx hb dX4_cover_38 (lv_at hl 2 rfl) ?_
    refine lv_lload_n hx hb dX4_cover_40 rfl (lv_at hl 5 rfl) ?_
    refine lv_aload_n hx hb dX4_cover_41 rfl (lv_at hl 3 rfl) ?_
    refine va_get (D := D) (ci := 5) (v := .ref co) (C := RX4) (T := TX4) (N := 5) hx hb hts iX4 hown hK hP 0 rfl rfl 4 (by decide) (hts (.fieldLink RX4 19 "InterlockTables$Survey" "covered" "[J") (by decide +kernel)) (fun _ h9 => h9) rfl dX4_cover_42 ?_
    refine lv_iload hx hb dX4_cover_45 (lv_at hl 0 rfl) ?_
    refine va_lald hx hb hK hP 1 2 rfl rfl (vp_in_nI (by omega) (by omega)) dX4_cover_47 ?_
    refine lv_topl (fun x_4 ex_4 => ?_)
    obtain rfl : x_4 = c1 a := by rw [ex_4]; rw [nI_clamp (by omega)]
    refine lv_ldc2 (v := -1) hx hb hown (hts (.constantLong RX4 106 (-1)) (by decide +kernel)) dX4_cover_48 ?_
    refine lv_lxor hx hb dX4_cover_51 ?_
    refine lv_land hx hb dX4_cover_52 ?_
    refine lv_lconst (v := 0) hx hb dX4_cover_53 (by decide +kernel) ?_
    refine W.lcmp hx hb dX4_cover_54 ?_
    refine lv_if_eq (tgt := 62) hx hb dX4_cover_55 (by decide) (fun c55 => ?_) (fun c55 => ?_)
    · refine lv_iconst (v := 0) hx hb dX4_cover_62 (by decide +kernel) ?_
      refine lv_ior hx hb dX4_cover_63 ?_
      refine lv_istore (lv' := [(4, .int (fz ||| 0)), (6, .int (nI a)), (5, .int (nI i)), (0, .ref h0), (1, .ref r0), (2, .long on)]) hx hb dX4_cover_64 hl (by decide) rfl (fun ls hl => ?_)
      refine lv_aload_n hx hb dX4_cover_66 rfl (lv_at hl 3 rfl) ?_
      refine va_get (D := D) (ci := 5) (v := .ref co) (C := RX4) (T := TX4) (N := 5) hx hb hts iX4 hown hK hP 0 rfl rfl 4 (by decide) (hts (.fieldLink RX4 19 "InterlockTables$Survey" "covered" "[J") (by decide +kernel)) (fun _ h9 => h9) rfl dX4_cover_67 ?_
      refine lv_iload hx hb dX4_cover_70 (lv_at hl 1 rfl) ?_
      refine lv_dup2_11 hx hb dX4_cover_72 rfl rfl ?_
      refine va_lald hx hb hK hP 1 2 rfl rfl (vp_in_nI (by omega) (by omega)) dX4_cover_73 ?_
      refine lv_topl (fun x_5 ex_5 => ?_)
      obtain rfl : x_5 = c1 a := by rw [ex_5]; rw [nI_clamp (by omega)]
      refine lv_lload_n hx hb dX4_cover_74 rfl (lv_at hl 5 rfl) ?_
      refine lv_lor hx hb dX4_cover_75 ?_
      refine va_last hx hb hK hP hD hS 1 2 rfl rfl (vp_in_nI (by omega) (by omega)) dX4_cover_76 (fun H locs hP hD hS => ?_)
      have hP : va_P D vwCl [(h0, .inr (5, [.ref tb, .ref us, .int uc, .ref se, .ref co])), (co, .inl (cy 2, 32, .inr (.inl (vp_updL c1 (nI a).toNatClampNeg ((c1 a) ||| on))))), (r0, .inr (4, [.ref aa, .int x1, .int x2, .int x3, .int x4, .int x5, .int x6, .int x7, .int x8, .int x9, .int x10, .int x11, .int x12])), (aa, .inl (cy 1, 8, .inl fa))] H := hP
      have hD : va_D A [(h0, .inr (5, [.ref tb, .ref us, .int uc, .ref se, .ref co])), (co, .inl (cy 2, 32, .inr (.inl (vp_updL c1 (nI a).toNatClampNeg ((c1 a) ||| on))))), (r0, .inr (4, [.ref aa, .int x1, .int x2, .int x3, .int x4, .int x5, .int x6, .int x7, .int x8, .int x9, .int x10, .int x11, .int x12])), (aa, .inl (cy 1, 8, .inl fa))] := hD
      have ef_76 : (vp_updL c1 (nI a).toNatClampNeg ((c1 a) ||| on)) = (vp_updL c1 a ((c1 a) ||| on)) := by rw [nI_clamp (by omega)]
      rw [ef_76] at hP hD
      refine lv_iinc (v := nI (i + 1)) (lv' := [(5, .int (nI (i + 1))), (4, .int (fz ||| 0)), (6, .int (nI a)), (0, .ref h0), (1, .ref r0), (2, .long on)]) hx hb dX4_cover_77 hl (k := 2) rfl (nI_1 i) (by decide) rfl (fun ls hl => ?_)
      refine lv_goto (tgt := 6) hx hb dX4_cover_80 (by decide) ?_
      exact ih6 ((i + 1), (fz ||| 0), (vp_updL c1 a ((c1 a) ||| on))) _ _ ls ⟨hP.sub [0, 1, 2, 3] rfl, hD.sub [0, 1, 2, 3] (by decide) rfl, hS, lv_sub hl [0, 1, 3, 4, 5] rfl, ⟨by omega, cvI_s hI2 hai ha (cmpz (Or.inl ⟨c55, rfl⟩))⟩⟩ (by (try dsimp only); omega)
    · refine lv_iconst (v := 1) hx hb dX4_cover_58 (by decide +kernel) ?_
      refine lv_goto (tgt := 63) hx hb dX4_cover_59 (by decide) ?_
      refine lv_ior hx hb dX4_cover_63 ?_
      refine lv_istore (lv' := [(4, .int (fz ||| 1)), (6, .int (nI a)), (5, .int (nI i)), (0, .ref h0), (1, .ref r0), (2, .long on)]) hx hb dX4_cover_64 hl (by decide) rfl (fun ls hl => ?_)
      refine lv_aload_n hx hb dX4_cover_66 rfl (lv_at hl 3 rfl) ?_
      refine va_get (D := D) (ci := 5) (v := .ref co) (C := RX4) (T := TX4) (N := 5) hx hb hts iX4 hown hK hP 0 rfl rfl 4 (by decide) (hts (.fieldLink RX4 19 "InterlockTables$Survey" "covered" "[J") (by decide +kernel)) (fun _ h9 => h9) rfl dX4_cover_67 ?_
      refine lv_iload hx hb dX4_cover_70 (lv_at hl 1 rfl) ?_
      refine lv_dup2_11 hx hb dX4_cover_72 rfl rfl ?_
      refine va_lald hx hb hK hP 1 2 rfl rfl (vp_in_nI (by omega) (by omega)) dX4_cover_73 ?_
      refine lv_topl (fun x_6 ex_6 => ?_)
      obtain rfl : x_6 = c1 a := by rw [ex_6]; rw [nI_clamp (by omega)]
      refine lv_lload_n hx hb dX4_cover_74 rfl (lv_at hl 5 rfl) ?_
      refine lv_lor hx hb dX4_cover_75 ?_
      refine va_last hx hb hK hP hD hS 1 2 rfl rfl (vp_in_nI (by omega) (by omega)) dX4_cover_76 (fun H locs hP hD hS => ?_)
      have hP : va_P D vwCl [(h0, .inr (5, [.ref tb, .ref us, .int uc, .ref se, .ref co])), (co, .inl (cy 2, 32, .inr (.inl (vp_updL c1 (nI a).toNatClampNeg ((c1 a) ||| on))))), (r0, .inr (4, [.ref aa, .int x1, .int x2, .int x3, .int x4, .int x5, .int x6, .int x7, .int x8, .int x9, .int x10, .int x11, .int x12])), (aa, .inl (cy 1, 8, .inl fa))] H := hP
      have hD : va_D A [(h0, .inr (5, [.ref tb, .ref us, .int uc, .ref se, .ref co])), (co, .inl (cy 2, 32, .inr (.inl (vp_updL c1 (nI a).toNatClampNeg ((c1 a) ||| on))))), (r0, .inr (4, [.ref aa, .int x1, .int x2, .int x3, .int x4, .int x5, .int x6, .int x7, .int x8, .int x9, .int x10, .int x11, .int x12])), (aa, .inl (cy 1, 8, .inl fa))] := hD
      have ef_76 : (vp_updL c1 (nI a).toNatClampNeg ((c1 a) ||| on)) = (vp_updL c1 a ((c1 a) ||| on)) := by rw [nI_clamp (by omega)]
      rw [ef_76] at hP hD
      refine lv_iinc (v := nI (i + 1)) (lv' := [(5, .int (nI (i + 1))), (4, .int (fz ||| 1)), (6, .int (nI a)), (0, .ref h0), (1, .ref r0), (2, .long on)]) hx hb dX4_cover_77 hl (k := 2) rfl (nI_1 i) (by decide) rfl (fun ls hl => ?_)
      refine lv_goto (tgt := 6) hx hb dX4_cover_80 (by decide) ?_
      exact ih6 ((i + 1), (fz ||| 1), (vp_updL c1 a ((c1 a) ||| on))) _ _ ls ⟨hP.sub [0, 1, 2, 3] rfl, hD.sub [0, 1, 2, 3] (by decide) rfl, hS, lv_sub hl [0, 1, 3, 4, 5] rfl, ⟨by omega, cvI_s hI2 hai ha (cmpz (Or.inr ⟨c55, rfl⟩))⟩⟩ (by (try dsimp only); omega)

set_option maxHeartbeats 4000000 in
set_option maxRecDepth 100000 in
theorem c_findUsed (l : Launch) (D : va_G) (cy : Nat → ClassId) (e : Nat → Nat)  (h0 : Nat) (tb : Nat) (us : Nat) (se : Nat) (co : Nat) (uc : Nat) (uf : Nat → Int32) (ro : Nat) (xp : Nat) (wr : Value) (sv : Int32) (cd : Nat) (sz0 : Nat) (st : Nat) (n1 : Nat) (fc : Nat → Int32) (sz : Nat) (hsz : sz0 ≤ n1) (hn1 : n1 < 65536) (huc : uc = 0) : Met l yX4_findUsed wsX4_findUsed ({ frames := 1, cells := 0, slots := 0, locals := 21 }) (va_Pc [.ref h0] (mt_B D cy e [(h0, .inr (5, [.ref tb, .ref us, .int (nI uc), .ref se, .ref co])), (us, .inl (cy 1, 16, .inl uf)), (tb, .inr (6, [.ref ro, .ref xp, wr, .int sv])), (xp, .inr (2, [.ref cd, .int (nI sz0), .ref st])), (cd, .inl (cy 0, n1, .inl fc))] sz)) (va_Qv (fun (u : Nat × (Nat → Int32)) => match u with | (uc2, uf2) => usdP fc sz0 uc2 uf2) (mt_Q D (fun (u : Nat × (Nat → Int32)) => match u with | (uc2, uf2) => [(h0, .inr (5, [.ref tb, .ref us, .int (nI uc2), .ref se, .ref co])), (us, .inl (cy 1, 16, .inl uf2)), (tb, .inr (6, [.ref ro, .ref xp, wr, .int sv])), (xp, .inr (2, [.ref cd, .int (nI sz0), .ref st])), (cd, .inl (cy 0, n1, .inl fc))]) (va_A [(h0, .inr (5, [.ref tb, .ref us, .int (nI uc), .ref se, .ref co])), (us, .inl (cy 1, 16, .inl uf)), (tb, .inr (6, [.ref ro, .ref xp, wr, .int sv])), (xp, .inr (2, [.ref cd, .int (nI sz0), .ref st])), (cd, .inl (cy 0, n1, .inl fc))] sz)) (va_A [(h0, .inr (5, [.ref tb, .ref us, .int (nI uc), .ref se, .ref co])), (us, .inl (cy 1, 16, .inl uf)), (tb, .inr (6, [.ref ro, .ref xp, wr, .int sv])), (xp, .inr (2, [.ref cd, .int (nI sz0), .ref st])), (cd, .inl (cy 0, n1, .inl fc))] sz)) (0) (0) (va_A [(h0, .inr (5, [.ref tb, .ref us, .int (nI uc), .ref se, .ref co])), (us, .inl (cy 1, 16, .inl uf)), (tb, .inr (6, [.ref ro, .ref xp, wr, .int sv])), (xp, .inr (2, [.ref cd, .int (nI sz0), .ref st])), (cd, .inl (cy 0, n1, .inl fc))] sz) := by
  refine Met.ofW (cc := cX4_findUsed) (maxL := 5) (ret := none) (by decide) rfl ?_
  intro p ev s m args below meth c s₁ B hml hv
  obtain ⟨rfl, hsz, hP, hK, hD0, hG⟩ := hv
  have hx := B.exec
  have hb := B.bytes
  have hr := B.returns
  have hts := atoms_spec (ws := wsX4_findUsed) B.pre
  have hown : s.vm.findClass RX4 = some m.cls := findClass_of_methodNamed B.named
  have hlocks := B.notSynchronized
  subst hsz
  have hD := hD0.self (sz := s.heap.size)
  generalize hAe : va_A [(h0, .inr (5, [.ref tb, .ref us, .int (nI uc), .ref se, .ref co])), (us, .inl (cy 1, 16, .inl uf)), (tb, .inr (6, [.ref ro, .ref xp, wr, .int sv])), (xp, .inr (2, [.ref cd, .int (nI sz0), .ref st])), (cd, .inl (cy 0, n1, .inl fc))] s.heap.size = A at hD hG ⊢
  have hA : ∀ q : Nat, s.heap.size ≤ q → A q := fun q h => by rw [← hAe]; exact Or.inr h
  have hS : va_S A s.heap s.heap [] := va_S.rf
  have hP : va_P D vwCl [(h0, .inr (5, [.ref tb, .ref us, .int (nI uc), .ref se, .ref co])), (us, .inl (cy 1, 16, .inl uf)), (tb, .inr (6, [.ref ro, .ref xp, wr, .int sv])), (xp, .inr (2, [.ref cd, .int (nI sz0), .ref st])), (cd, .inl (cy 0, n1, .inl fc))] s.heap := hP
  have iX4 : ∀ w ∈ wsX40, w ∈ wsX4_findUsed := fun w h => List.mem_cons_of_mem _ (List.mem_append_left _ (List.mem_append_left _ (List.mem_append_right _ h)))
  have iX5 : ∀ w ∈ wsX50, w ∈ wsX4_findUsed := fun w h => List.mem_cons_of_mem _ (List.mem_append_left _ (List.mem_append_right _ h))
  have iX1 : ∀ w ∈ wsX10, w ∈ wsX4_findUsed := fun w h => List.mem_cons_of_mem _ (List.mem_append_right _ h)
  have hl := lv_entry ([.ref h0]) (n := 5) (Nat.le_of_ble_eq_true rfl)
  rw [lg_entry_eq]
  generalize (lg_sl ([.ref h0]) ++ List.replicate (5 - (lg_sl ([.ref h0])).length) Slot.unset).toArray = ls at hl ⊢
  have hl : lv_has ls 5 [(0, .ref h0)] := hl
  refine lv_iconst (v := 0) hx hb dX4_findUsed_0 (by decide +kernel) ?_
  refine lv_istore_n (lv' := [(1, .int 0), (0, .ref h0)]) hx hb dX4_findUsed_1 rfl hl (by decide) rfl (fun ls hl => ?_)
  refine lv_aload_n hx hb dX4_findUsed_2 rfl (lv_at hl 1 rfl) ?_
  refine va_get (D := D) (ci := 5) (v := .ref tb) (C := RX4) (T := TX4) (N := 5) hx hb hts iX4 hown hK hP 0 rfl rfl 0 (by decide) (hts (.fieldLink RX4 22 "InterlockTables$Survey" "table" "LInterlockTables$Table;") (by decide +kernel)) (fun _ h9 => h9) rfl dX4_findUsed_3 ?_
  refine va_getN (D := D) (ci := 6) (v := .ref xp) (C := RX5) (T := TX5) (N := 4) hx hb hts iX5 hown hK hP 2 rfl rfl 1 (by decide) (gl_N.f hG.gN 3 rfl) (fun _ h9 => h9) rfl dX4_findUsed_6 ?_
  refine lv_astore_n (lv' := [(2, .ref xp), (1, .int 0), (0, .ref h0)]) hx hb dX4_findUsed_9 rfl hl (by decide) rfl (fun ls hl => ?_)
  refine lv_iconst (v := 0) hx hb dX4_findUsed_10 (by decide +kernel) ?_
  refine lv_topi (fun x_1 ex_1 => ?_)
  obtain rfl : x_1 = nI 0 := by rw [ex_1]; exact nI_0.symm
  refine lv_istore_n (lv' := [(3, .int (nI 0)), (2, .ref xp), (1, .int 0), (0, .ref h0)]) hx hb dX4_findUsed_11 rfl hl (by decide) rfl (fun ls hl => ?_)
  refine lp_W (σ := Nat × Int32) (Wf := fun H locs ls => W p l ev _ s m _ below meth c H locs (0) (0) _ (F0 m 12 ls [])) (fun zz9 H locs ls => match zz9 with | (i, bz) => va_P D vwCl [(h0, .inr (5, [.ref tb, .ref us, .int (nI uc), .ref se, .ref co])), (us, .inl (cy 1, 16, .inl uf)), (tb, .inr (6, [.ref ro, .ref xp, wr, .int sv])), (xp, .inr (2, [.ref cd, .int (nI sz0), .ref st])), (cd, .inl (cy 0, n1, .inl fc))] H ∧ va_D A [(h0, .inr (5, [.ref tb, .ref us, .int (nI uc), .ref se, .ref co])), (us, .inl (cy 1, 16, .inl uf)), (tb, .inr (6, [.ref ro, .ref xp, wr, .int sv])), (xp, .inr (2, [.ref cd, .int (nI sz0), .ref st])), (cd, .inl (cy 0, n1, .inl fc))] ∧ va_S A s.heap H locs ∧ lv_has ls 5 [(3, .int (nI i)), (2, .ref xp), (1, .int bz), (0, .ref h0)] ∧ (i ≤ sz0 ∧ bzI fc i bz)) (fun zz9 => match zz9 with | (i, bz) => sz0 - i) ?_ (0, 0) _ _ ls ⟨hP, hD, hS, lv_sub hl [0, 1, 2, 3] rfl, ⟨Nat.zero_le _, bzI_0⟩⟩
  intro zz9 H locs ls hI ih
  obtain ⟨i, bz⟩ := zz9
  obtain ⟨hP, hD, hS, hl, hI⟩ := hI
  have ih12 := ih
  have hI12 := hI
  have hP : va_P D vwCl [(h0, .inr (5, [.ref tb, .ref us, .int (nI uc), .ref se, .ref co])), (us, .inl (cy 1, 16, .inl uf)), (tb, .inr (6, [.ref ro, .ref xp, wr, .int sv])), (xp, .inr (2, [.ref cd, .int (nI sz0), .ref st])), (cd, .inl (cy 0, n1, .inl fc))] H := hP
  have hD : va_D A [(h0, .inr (5, [.ref tb, .ref us, .int (nI uc), .ref se, .ref co])), (us, .inl (cy 1, 16, .inl uf)), (tb, .inr (6, [.ref ro, .ref xp, wr, .int sv])), (xp, .inr (2, [.ref cd, .int (nI sz0), .ref st])), (cd, .inl (cy 0, n1, .inl fc))] := hD
  have hl : lv_has ls 5 [(3, .int (nI i)), (2, .ref xp), (1, .int bz), (0, .ref h0)] := hl
  obtain ⟨hIa, hIb⟩ := hI
  refine lv_iload_n hx hb dX4_findUsed_12 rfl (lv_at hl 0 rfl) ?_
  refine lv_aload_n hx hb dX4_findUsed_13 rfl (lv_at hl 1 rfl) ?_
  refine pu_calli (va_runV (As := []) (rest := [.int (nI i)]) ⟨hx, hb, hml, hown, hts⟩ (c_Expr_size l D cy e xp cd (nI sz0) st ) (cwV 0 hts gX4_findUsed_X1_size rfl rfl rfl (by decide +kernel) ⟨Nat.le_of_ble_eq_true rfl, Nat.le_of_ble_eq_true rfl⟩) (pu_preV hP hK hS hG [3] rfl (q := (RX1, TX1, 3)) (ci := 2) (q0 := 3) rfl rfl) rfl rfl hl.1 rfl (lv_room (Nat.le_of_ble_eq_true rfl)) dX4_findUsed_14 ⟨(Nat.le_of_ble_eq_true rfl), (Nat.le_of_ble_eq_true rfl)⟩) hP hS (fun H locs hP hS => ?_)
  have hP : va_P D vwCl [(h0, .inr (5, [.ref tb, .ref us, .int (nI uc), .ref se, .ref co])), (us, .inl (cy 1, 16, .inl uf)), (tb, .inr (6, [.ref ro, .ref xp, wr, .int sv])), (xp, .inr (2, [.ref cd, .int (nI sz0), .ref st])), (cd, .inl (cy 0, n1, .inl fc))] H := hP
  refine lv_icmp_ge (tgt := 48) hx hb dX4_findUsed_17 (by decide) (fun c17 => ?_) (fun c17 => ?_)
  · have hge0 : sz0 ≤ i := (nI_leI (by omega) (by omega)).mp c17
    refine lv_iconst (v := 0) hx hb dX4_findUsed_48 (by decide +kernel) ?_
    refine lv_topi (fun x_2 ex_2 => ?_)
    obtain rfl : x_2 = nI 0 := by rw [ex_2]; exact nI_0.symm
    refine lv_istore_n (lv' := [(3, .int (nI 0)), (2, .ref xp), (1, .int bz), (0, .ref h0)]) hx hb dX4_findUsed_49 rfl hl (by decide) rfl (fun ls hl => ?_)
    refine lp_W (σ := Nat × Nat × (Nat → Int32)) (Wf := fun H locs ls => W p l ev _ s m _ below meth c H locs (0) (0) _ (F0 m 50 ls [])) (fun zz9 H locs ls => match zz9 with | (j, uc1, u1) => va_P D vwCl [(h0, .inr (5, [.ref tb, .ref us, .int (nI uc1), .ref se, .ref co])), (us, .inl (cy 1, 16, .inl u1)), (tb, .inr (6, [.ref ro, .ref xp, wr, .int sv])), (xp, .inr (2, [.ref cd, .int (nI sz0), .ref st])), (cd, .inl (cy 0, n1, .inl fc))] H ∧ va_D A [(h0, .inr (5, [.ref tb, .ref us, .int (nI uc1), .ref se, .ref co])), (us, .inl (cy 1, 16, .inl u1)), (tb, .inr (6, [.ref ro, .ref xp, wr, .int sv])), (xp, .inr (2, [.ref cd, .int (nI sz0), .ref st])), (cd, .inl (cy 0, n1, .inl fc))] ∧ va_S A s.heap H locs ∧ lv_has ls 5 [(3, .int (nI j)), (2, .ref xp), (1, .int bz), (0, .ref h0)] ∧ (j ≤ 16 ∧ fuI bz j uc1 u1)) (fun zz9 => match zz9 with | (j, uc1, u1) => 16 - j) ?_ (0, uc, uf) _ _ ls ⟨hP, hD, hS, lv_sub hl [0, 1, 2, 3] rfl, ⟨by decide, by rw [huc]; exact fuI_0⟩⟩
    intro zz9 H locs ls hI ih
    obtain ⟨j, uc1, u1⟩ := zz9
    obtain ⟨hP, hD, hS, hl, hI⟩ := hI
    have ih50 := ih
    have hI50 := hI
    have hP : va_P D vwCl [(h0, .inr (5, [.ref tb, .ref us, .int (nI uc1), .ref se, .ref co])), (us, .inl (cy 1, 16, .inl u1)), (tb, .inr (6, [.ref ro, .ref xp, wr, .int sv])), (xp, .inr (2, [.ref cd, .int (nI sz0), .ref st])), (cd, .inl (cy 0, n1, .inl fc))] H := hP
    have hD : va_D A [(h0, .inr (5, [.ref tb, .ref us, .int (nI uc1), .ref se, .ref co])), (us, .inl (cy 1, 16, .inl u1)), (tb, .inr (6, [.ref ro, .ref xp, wr, .int sv])), (xp, .inr (2, [.ref cd, .int (nI sz0), .ref st])), (cd, .inl (cy 0, n1, .inl fc))] := hD
    have hl : lv_has ls 5 [(3, .int (nI j)), (2, .ref xp), (1, .int bz), (0, .ref h0)] := hl
    obtain ⟨hJ1, hJ2⟩ := hI
    have hJ3 := hJ2.1
    refine lv_iload_n hx hb dX4_findUsed_50 rfl (lv_at hl 0 rfl) ?_
    refine lv_bipush (v := 16) hx hb dX4_findUsed_51 (by decide +kernel) ?_
    refine lv_icmp_ge (tgt := 102) hx hb dX4_findUsed_53 (by decide) (fun c53 => ?_) (fun c53 => ?_)
    · have hj16 : j = 16 := by have o9 := (nI_leI (a := 16) (b := j) (by decide) (by omega)).mp c53; omega
      have hP9 : va_P D vwCl [(h0, .inr (5, [.ref tb, .ref us, .int (nI uc1), .ref se, .ref co])), (us, .inl (cy 1, 16, .inl u1)), (tb, .inr (6, [.ref ro, .ref xp, wr, .int sv])), (xp, .inr (2, [.ref cd, .int (nI sz0), .ref st])), (cd, .inl (cy 0, n1, .inl fc))] H := hP.sub [0, 1, 2, 3, 4] rfl
      have hD9 : va_D A [(h0, .inr (5, [.ref tb, .ref us, .int (nI uc1), .ref se, .ref co])), (us, .inl (cy 1, 16, .inl u1)), (tb, .inr (6, [.ref ro, .ref xp, wr, .int sv])), (xp, .inr (2, [.ref cd, .int (nI sz0), .ref st])), (cd, .inl (cy 0, n1, .inl fc))] := hD.sub [0, 1, 2, 3, 4] (by decide) rfl
      refine W.widen (k := 0) (n := 0) (by omega) (by omega) ?_
      exact W.vret hx hb hr (fun t ht hW => ⟨⟨(uc1, u1), rfl, usd_of hJ2 hj16 (fun t ht => hIb t (by omega)), by rw [ht]; exact hP9, hD9⟩, hS.F ht⟩) hS.2.2 dX4_findUsed_102
    · have hj : j < 16 := pk_nle (b := j) (a := 16) (by omega) c53
      refine lv_iload_n hx hb dX4_findUsed_56 rfl (lv_at hl 2 rfl) ?_
      refine lv_iload_n hx hb dX4_findUsed_57 rfl (lv_at hl 0 rfl) ?_
      refine lv_iushr (v := (bz.toUInt32 >>> ((nI j).toUInt32 &&& Int32.toUInt32 31)).toInt32) hx hb dX4_findUsed_58 (rfl) ?_
      refine lv_iconst (v := 1) hx hb dX4_findUsed_59 (by decide +kernel) ?_
      refine lv_iand hx hb dX4_findUsed_60 ?_
      refine lv_if_eq (tgt := 96) hx hb dX4_findUsed_61 (by decide) (fun c61 => ?_) (fun c61 => ?_)
      · refine lv_iinc (v := nI (j + 1)) (lv' := [(3, .int (nI (j + 1))), (2, .ref xp), (1, .int bz), (0, .ref h0)]) hx hb dX4_findUsed_96 hl (k := 0) rfl (nI_1 j) (by decide) rfl (fun ls hl => ?_)
        refine lv_goto (tgt := 50) hx hb dX4_findUsed_99 (by decide) ?_
        exact ih50 ((j + 1), uc1, u1) _ _ ls ⟨hP.sub [0, 1, 2, 3, 4] rfl, hD.sub [0, 1, 2, 3, 4] (by decide) rfl, hS, lv_sub hl [0, 1, 2, 3] rfl, ⟨by omega, fuI_n hJ2 (by rw [(b_u1 (by omega)).mp c61]; decide)⟩⟩ (by (try dsimp only); omega)
      · refine lv_aload_n hx hb dX4_findUsed_64 rfl (lv_at hl 3 rfl) ?_
        refine va_get (D := D) (ci := 5) (v := .int (nI uc1)) (C := RX4) (T := TX4) (N := 5) hx hb hts iX4 hown hK hP 0 rfl rfl 2 (by decide) (hts (.fieldLink RX4 29 "InterlockTables$Survey" "usedCount" "I") (by decide +kernel)) (fun _ h9 => h9) rfl dX4_findUsed_65 ?_
        refine lv_aload_n hx hb dX4_findUsed_68 rfl (lv_at hl 3 rfl) ?_
        refine va_get (D := D) (ci := 5) (v := .ref us) (C := RX4) (T := TX4) (N := 5) hx hb hts iX4 hown hK hP 0 rfl rfl 1 (by decide) (hts (.fieldLink RX4 9 "InterlockTables$Survey" "used" "[I") (by decide +kernel)) (fun _ h9 => h9) rfl dX4_findUsed_69 ?_
        refine va_alen hx hb hK hP 1 1 rfl rfl (v := 16) rfl dX4_findUsed_72 ?_
        refine lv_icmp_ge (tgt := 96) hx hb dX4_findUsed_73 (by decide) (fun c73 => absurd c73 (nI_ge (a := uc1) (b := 16) (by omega) (by decide))) (fun _ => ?_)
        refine lv_aload_n hx hb dX4_findUsed_76 rfl (lv_at hl 3 rfl) ?_
        refine va_get (D := D) (ci := 5) (v := .ref us) (C := RX4) (T := TX4) (N := 5) hx hb hts iX4 hown hK hP 0 rfl rfl 1 (by decide) (hts (.fieldLink RX4 9 "InterlockTables$Survey" "used" "[I") (by decide +kernel)) (fun _ h9 => h9) rfl dX4_findUsed_77 ?_
        refine lv_aload_n hx hb dX4_findUsed_80 rfl (lv_at hl 3 rfl) ?_
        refine va_get (D := D) (ci := 5) (v := .int (nI uc1)) (C := RX4) (T := TX4) (N := 5) hx hb hts iX4 hown hK hP 0 rfl rfl 2 (by decide) (hts (.fieldLink RX4 29 "InterlockTables$Survey" "usedCount" "I") (by decide +kernel)) (fun _ h9 => h9) rfl dX4_findUsed_81 ?_
        refine lv_iload_n hx hb dX4_findUsed_84 rfl (lv_at hl 0 rfl) ?_
        refine va_iast hx hb hK hP hD hS 1 1 rfl rfl (vp_in_nI (by omega) (by omega)) dX4_findUsed_85 (fun H locs hP hD hS => ?_)
        have hP : va_P D vwCl [(h0, .inr (5, [.ref tb, .ref us, .int (nI uc1), .ref se, .ref co])), (us, .inl (cy 1, 16, .inl (upd u1 (nI uc1).toNatClampNeg (nI j)))), (tb, .inr (6, [.ref ro, .ref xp, wr, .int sv])), (xp, .inr (2, [.ref cd, .int (nI sz0), .ref st])), (cd, .inl (cy 0, n1, .inl fc))] H := hP
        have hD : va_D A [(h0, .inr (5, [.ref tb, .ref us, .int (nI uc1), .ref se, .ref co])), (us, .inl (cy 1, 16, .inl (upd u1 (nI uc1).toNatClampNeg (nI j)))), (tb, .inr (6, [.ref ro, .ref xp, wr, .int sv])), (xp, .inr (2, [.ref cd, .int (nI sz0), .ref st])), (cd, .inl (cy 0, n1, .inl fc))] := hD
        have ef_85 : (upd u1 (nI uc1).toNatClampNeg (nI j)) = (upd u1 uc1 (nI j)) := by rw [nI_clamp (by omega)]
        rw [ef_85] at hP hD
        refine lv_aload_n hx hb dX4_findUsed_86 rfl (lv_at hl 3 rfl) ?_
        refine lv_dup hx hb dX4_findUsed_87 rfl ?_
        refine va_get (D := D) (ci := 5) (v := .int (nI uc1)) (C := RX4) (T := TX4) (N := 5) hx hb hts iX4 hown hK hP 0 rfl rfl 2 (by decide) (hts (.fieldLink RX4 29 "InterlockTables$Survey" "usedCount" "I") (by decide +kernel)) (fun _ h9 => h9) rfl dX4_findUsed_88 ?_
        refine lv_iconst (v := 1) hx hb dX4_findUsed_91 (by decide +kernel) ?_
        refine lv_iadd hx hb dX4_findUsed_92 ?_
        refine lv_topi (fun x_3 ex_3 => ?_)
        obtain rfl : x_3 = nI (uc1 + 1) := by rw [ex_3]; exact nI_1 uc1
        refine va_put (D := D) (ci := 5) (v := .int (nI (uc1 + 1))) (ty := .int) (C := RX4) (T := TX4) (N := 5) hx hb hts iX4 tyX4 tyX4_ok nmX4 hown hK hP hD hS 0 rfl rfl 2 (by decide) (hts (.fieldLink RX4 29 "InterlockTables$Survey" "usedCount" "I") (by decide +kernel)) (fun _ h9 => h9) rfl (by decide +kernel) rfl rfl (Nat.le_of_ble_eq_true rfl) dX4_findUsed_93 (fun H locs hP hD hS => ?_)
        have hP : va_P D vwCl [(h0, .inr (5, [.ref tb, .ref us, .int (nI (uc1 + 1)), .ref se, .ref co])), (us, .inl (cy 1, 16, .inl (upd u1 uc1 (nI j)))), (tb, .inr (6, [.ref ro, .ref xp, wr, .int sv])), (xp, .inr (2, [.ref cd, .int (nI sz0), .ref st])), (cd, .inl (cy 0, n1, .inl fc))] H := hP
        have hD : va_D A [(h0, .inr (5, [.ref tb, .ref us, .int (nI (uc1 + 1)), .ref se, .ref co])), (us, .inl (cy 1, 16, .inl (upd u1 uc1 (nI j)))), (tb, .inr (6, [.ref ro, .ref xp, wr, .int sv])), (xp, .inr (2, [.ref cd, .int (nI sz0), .ref st])), (cd, .inl (cy 0, n1, .inl fc))] := hD
        refine lv_iinc (v := nI (j + 1)) (lv' := [(3, .int (nI (j + 1))), (2, .ref xp), (1, .int bz), (0, .ref h0)]) hx hb dX4_findUsed_96 hl (k := 0) rfl (nI_1 j) (by decide) rfl (fun ls hl => ?_)
        refine lv_goto (tgt := 50) hx hb dX4_findUsed_99 (by decide) ?_
        exact ih50 ((j + 1), (uc1 + 1), (upd u1 uc1 (nI j))) _ _ ls ⟨hP.sub [0, 1, 2, 3, 4] rfl, hD.sub [0, 1, 2, 3, 4] (by decide) rfl, hS, lv_sub hl [0, 1, 2, 3] rfl, ⟨by omega, fuI_y hJ2 hj⟩⟩ (by (try dsimp only); omega)
  · have hi : i < sz0 := pk_nle (by omega) c17
    refine lv_aload_n hx hb dX4_findUsed_20 rfl (lv_at hl 1 rfl) ?_
    refine lv_iload_n hx hb dX4_findUsed_21 rfl (lv_at hl 0 rfl) ?_
    refine pu_calli (va_runV (As := [.int (nI i)]) (rest := []) ⟨hx, hb, hml, hown, hts⟩ (c_Expr_at l D cy e xp cd sz0 st n1 fc (nI i) hsz hn1) (cwV 1 hts gX4_findUsed_X1_at rfl rfl rfl (by decide +kernel) ⟨Nat.le_of_ble_eq_true rfl, Nat.le_of_ble_eq_true rfl⟩) (pu_preV hP hK hS hG [3, 4] rfl (q := (RX1, TX1, 3)) (ci := 2) (q0 := 3) rfl rfl) rfl rfl hl.1 rfl (lv_room (Nat.le_of_ble_eq_true rfl)) dX4_findUsed_22 ⟨(Nat.le_of_ble_eq_true rfl), (Nat.le_of_ble_eq_true rfl)⟩) hP hS (fun H locs hP hS => ?_)
    have hP : va_P D vwCl [(h0, .inr (5, [.ref tb, .ref us, .int (nI uc), .ref se, .ref co])), (us, .inl (cy 1, 16, .inl uf)), (tb, .inr (6, [.ref ro, .ref xp, wr, .int sv])), (xp, .inr (2, [.ref cd, .int (nI sz0), .ref st])), (cd, .inl (cy 0, n1, .inl fc))] H := hP
    refine lv_topi (fun x_4 ex_4 => ?_)
    obtain rfl : x_4 = fc i := by rw [ex_4]; exact fp_eat (by omega) (by omega)
    refine lv_istore (lv' := [(4, .int (fc i)), (3, .int (nI i)), (2, .ref xp), (1, .int bz), (0, .ref h0)]) hx hb dX4_findUsed_25 hl (by decide) rfl (fun ls hl => ?_)
    refine lv_iload hx hb dX4_findUsed_27 (lv_at hl 0 rfl) ?_
    refine pu_calli (va_runS (As := [.int (fc i)]) (rest := []) ⟨hx, hb, hml, hown, hts⟩ (c_isCondition l D cy e (fc i) ) (va_cwS 1 hts gX4_findUsed_X1_isCondition rfl rfl rfl (by decide +kernel) ⟨Nat.le_of_ble_eq_true rfl, Nat.le_of_ble_eq_true rfl⟩) (pu_preS hP hK hS hG [] rfl) rfl rfl hl.1 rfl (lv_room (Nat.le_of_ble_eq_true rfl)) dX4_findUsed_29 ⟨(Nat.le_of_ble_eq_true rfl), (Nat.le_of_ble_eq_true rfl)⟩) hP hS (fun H locs hP hS => ?_)
    have hP : va_P D vwCl [(h0, .inr (5, [.ref tb, .ref us, .int (nI uc), .ref se, .ref co])), (us, .inl (cy 1, 16, .inl uf)), (tb, .inr (6, [.ref ro, .ref xp, wr, .int sv])), (xp, .inr (2, [.ref cd, .int (nI sz0), .ref st])), (cd, .inl (cy 0, n1, .inl fc))] H := hP
    refine lv_if_eq (tgt := 42) hx hb dX4_findUsed_32 (by decide) (fun c32 => ?_) (fun c32 => ?_)
    · refine lv_iinc (v := nI (i + 1)) (lv' := [(3, .int (nI (i + 1))), (4, .int (fc i)), (2, .ref xp), (1, .int bz), (0, .ref h0)]) hx hb dX4_findUsed_42 hl (k := 1) rfl (nI_1 i) (by decide) rfl (fun ls hl => ?_)
      refine lv_goto (tgt := 12) hx hb dX4_findUsed_45 (by decide) ?_
      exact ih12 ((i + 1), bz) _ _ ls ⟨hP.sub [0, 1, 2, 3, 4] rfl, hD.sub [0, 1, 2, 3, 4] (by decide) rfl, hS, lv_sub hl [0, 2, 3, 4] rfl, ⟨by omega, bzI_n hIb c32⟩⟩ (by (try dsimp only); omega)
    · refine lv_iload_n hx hb dX4_findUsed_35 rfl (lv_at hl 3 rfl) ?_
      refine lv_iconst (v := 1) hx hb dX4_findUsed_36 (by decide +kernel) ?_
      refine lv_iload hx hb dX4_findUsed_37 (lv_at hl 0 rfl) ?_
      refine lv_ishl hx hb dX4_findUsed_39 ?_
      refine lv_ior hx hb dX4_findUsed_40 ?_
      refine lv_istore_n (lv' := [(1, .int (bz ||| ((1 : Int32) <<< ((fc i) &&& 31)))), (4, .int (fc i)), (3, .int (nI i)), (2, .ref xp), (0, .ref h0)]) hx hb dX4_findUsed_41 rfl hl (by decide) rfl (fun ls hl => ?_)
      refine lv_iinc (v := nI (i + 1)) (lv' := [(3, .int (nI (i + 1))), (1, .int (bz ||| ((1 : Int32) <<< ((fc i) &&& 31)))), (4, .int (fc i)), (2, .ref xp), (0, .ref h0)]) hx hb dX4_findUsed_42 hl (k := 2) rfl (nI_1 i) (by decide) rfl (fun ls hl => ?_)
      refine lv_goto (tgt := 12) hx hb dX4_findUsed_45 (by decide) ?_
      exact ih12 ((i + 1), (bz ||| ((1 : Int32) <<< ((fc i) &&& 31)))) _ _ ls ⟨hP.sub [0, 1, 2, 3, 4] rfl, hD.sub [0, 1, 2, 3, 4] (by decide) rfl, hS, lv_sub hl [0, 3, 1, 4] rfl, ⟨by omega, bzI_y hIb c32⟩⟩ (by (try dsimp only); omega)

set_option maxHeartbeats 4000000 in
set_option maxRecDepth 100000 in
theorem c_set (l : Launch) (D : va_G) (cy : Nat → ClassId) (e : Nat → Nat)  (h0 : Nat) (tb : Nat) (us : Nat) (se : Nat) (co : Nat) (uc : Nat) (uf : Nat → Int32) (sf : Nat → Int64) (bk : Nat) (fc : Nat → Int32) (sz0 : Nat) (sz : Nat) (hus : usdP fc sz0 uc uf) : Met l yX4_set wsX4_set ({ frames := 0, cells := 0, slots := 0, locals := 0 }) (va_Pc [.ref h0, .int (nI bk)] (mt_B D cy e [(h0, .inr (5, [.ref tb, .ref us, .int (nI uc), .ref se, .ref co])), (us, .inl (cy 1, 16, .inl uf)), (se, .inl (cy 2, 16, .inr (.inl sf)))] sz)) (va_Qv (fun (sf2 : (Nat → Int64)) => mtch uc uf bk sf2) (mt_Q D (fun sf2 => [(h0, .inr (5, [.ref tb, .ref us, .int (nI uc), .ref se, .ref co])), (us, .inl (cy 1, 16, .inl uf)), (se, .inl (cy 2, 16, .inr (.inl sf2)))]) (va_A [(h0, .inr (5, [.ref tb, .ref us, .int (nI uc), .ref se, .ref co])), (us, .inl (cy 1, 16, .inl uf)), (se, .inl (cy 2, 16, .inr (.inl sf)))] sz)) (va_A [(h0, .inr (5, [.ref tb, .ref us, .int (nI uc), .ref se, .ref co])), (us, .inl (cy 1, 16, .inl uf)), (se, .inl (cy 2, 16, .inr (.inl sf)))] sz)) (0) (0) (va_A [(h0, .inr (5, [.ref tb, .ref us, .int (nI uc), .ref se, .ref co])), (us, .inl (cy 1, 16, .inl uf)), (se, .inl (cy 2, 16, .inr (.inl sf)))] sz) := by
  refine Met.ofW (cc := cX4_set) (maxL := 6) (ret := none) (by decide) rfl ?_
  intro p ev s m args below meth c s₁ B hml hv
  obtain ⟨rfl, hsz, hP, hK, hD0, hG⟩ := hv
  have hx := B.exec
  have hb := B.bytes
  have hr := B.returns
  have hts := atoms_spec (ws := wsX4_set) B.pre
  have hown : s.vm.findClass RX4 = some m.cls := findClass_of_methodNamed B.named
  have hlocks := B.notSynchronized
  subst hsz
  have hD := hD0.self (sz := s.heap.size)
  generalize hAe : va_A [(h0, .inr (5, [.ref tb, .ref us, .int (nI uc), .ref se, .ref co])), (us, .inl (cy 1, 16, .inl uf)), (se, .inl (cy 2, 16, .inr (.inl sf)))] s.heap.size = A at hD hG ⊢
  have hA : ∀ q : Nat, s.heap.size ≤ q → A q := fun q h => by rw [← hAe]; exact Or.inr h
  have hS : va_S A s.heap s.heap [] := va_S.rf
  have hP : va_P D vwCl [(h0, .inr (5, [.ref tb, .ref us, .int (nI uc), .ref se, .ref co])), (us, .inl (cy 1, 16, .inl uf)), (se, .inl (cy 2, 16, .inr (.inl sf)))] s.heap := hP
  have iX4 : ∀ w ∈ wsX40, w ∈ wsX4_set := fun w h => List.mem_cons_of_mem _ (List.mem_append_right _ h)
  have hl := lv_entry ([.ref h0, .int (nI bk)]) (n := 6) (Nat.le_of_ble_eq_true rfl)
  rw [lg_entry_eq]
  generalize (lg_sl ([.ref h0, .int (nI bk)]) ++ List.replicate (6 - (lg_sl ([.ref h0, .int (nI bk)])).length) Slot.unset).toArray = ls at hl ⊢
  have hl : lv_has ls 6 [(0, .ref h0), (1, .int (nI bk))] := hl
  have huc := hus.1
  refine lv_iconst (v := 0) hx hb dX4_set_0 (by decide +kernel) ?_
  refine lv_topi (fun x_1 ex_1 => ?_)
  obtain rfl : x_1 = nI 0 := by rw [ex_1]; exact nI_0.symm
  refine lv_istore_n (lv' := [(2, .int (nI 0)), (0, .ref h0), (1, .int (nI bk))]) hx hb dX4_set_1 rfl hl (by decide) rfl (fun ls hl => ?_)
  refine lp_W (σ := Nat × (Nat → Int64)) (Wf := fun H locs ls => W p l ev _ s m _ below meth c H locs (0) (0) _ (F0 m 2 ls [])) (fun zz9 H locs ls => match zz9 with | (j, s1) => va_P D vwCl [(h0, .inr (5, [.ref tb, .ref us, .int (nI uc), .ref se, .ref co])), (us, .inl (cy 1, 16, .inl uf)), (se, .inl (cy 2, 16, .inr (.inl s1)))] H ∧ va_D A [(h0, .inr (5, [.ref tb, .ref us, .int (nI uc), .ref se, .ref co])), (us, .inl (cy 1, 16, .inl uf)), (se, .inl (cy 2, 16, .inr (.inl s1)))] ∧ va_S A s.heap H locs ∧ lv_has ls 6 [(2, .int (nI j)), (0, .ref h0), (1, .int (nI bk))] ∧ (j ≤ uc ∧ seI uc uf bk j s1)) (fun zz9 => match zz9 with | (j, s1) => uc - j) ?_ (0, sf) _ _ ls ⟨hP, hD, hS, lv_sub hl [0, 1, 2] rfl, ⟨Nat.zero_le _, fun t ht => absurd ht (Nat.not_lt_zero _)⟩⟩
  intro zz9 H locs ls hI ih
  obtain ⟨j, s1⟩ := zz9
  obtain ⟨hP, hD, hS, hl, hI⟩ := hI
  have ih2 := ih
  have hI2 := hI
  have hP : va_P D vwCl [(h0, .inr (5, [.ref tb, .ref us, .int (nI uc), .ref se, .ref co])), (us, .inl (cy 1, 16, .inl uf)), (se, .inl (cy 2, 16, .inr (.inl s1)))] H := hP
  have hD : va_D A [(h0, .inr (5, [.ref tb, .ref us, .int (nI uc), .ref se, .ref co])), (us, .inl (cy 1, 16, .inl uf)), (se, .inl (cy 2, 16, .inr (.inl s1)))] := hD
  have hl : lv_has ls 6 [(2, .int (nI j)), (0, .ref h0), (1, .int (nI bk))] := hl
  obtain ⟨hI1, hI2⟩ := hI
  refine lv_iload_n hx hb dX4_set_2 rfl (lv_at hl 0 rfl) ?_
  refine lv_aload_n hx hb dX4_set_3 rfl (lv_at hl 1 rfl) ?_
  refine va_get (D := D) (ci := 5) (v := .int (nI uc)) (C := RX4) (T := TX4) (N := 5) hx hb hts iX4 hown hK hP 0 rfl rfl 2 (by decide) (hts (.fieldLink RX4 29 "InterlockTables$Survey" "usedCount" "I") (by decide +kernel)) (fun _ h9 => h9) rfl dX4_set_4 ?_
  refine lv_icmp_ge (tgt := 76) hx hb dX4_set_7 (by decide) (fun c7 => ?_) (fun c7 => ?_)
  · have hge : uc ≤ j := (nI_leI (by omega) (by omega)).mp c7
    have hP9 : va_P D vwCl [(h0, .inr (5, [.ref tb, .ref us, .int (nI uc), .ref se, .ref co])), (us, .inl (cy 1, 16, .inl uf)), (se, .inl (cy 2, 16, .inr (.inl s1)))] H := hP.sub [0, 1, 2] rfl
    have hD9 : va_D A [(h0, .inr (5, [.ref tb, .ref us, .int (nI uc), .ref se, .ref co])), (us, .inl (cy 1, 16, .inl uf)), (se, .inl (cy 2, 16, .inr (.inl s1)))] := hD.sub [0, 1, 2] (by decide) rfl
    refine W.widen (k := 0) (n := 0) (by omega) (by omega) ?_
    exact W.vret hx hb hr (fun t ht hW => ⟨⟨s1, rfl, fun t ht => hI2 t (by omega), by rw [ht]; exact hP9, hD9⟩, hS.F ht⟩) hS.2.2 dX4_set_76
  · have hj : j < uc := pk_nle (by omega) c7
    obtain ⟨ua, hua2, hua⟩ := hus.2.1 j hj
    refine lv_iload_n hx hb dX4_set_10 rfl (lv_at hl 0 rfl) ?_
    refine va_getsN (v := .ref (e 1)) hx hb hG.z1 hS hown (gl_N.f hG.gN 29 rfl) (fun _ h9 => h9) dX4_set_11 ?_
    refine va_tlen hx hb hG.t1 hS (v := 6) rfl dX4_set_14 ?_
    refine lv_icmp_ge (tgt := 26) hx hb dX4_set_15 (by decide) (fun c15 => ?_) (fun c15 => ?_)
    · have hj6 : 6 ≤ j := (nI_leI (a := 6) (b := j) (by decide) (by omega)).mp c15
      refine lv_iload_n hx hb dX4_set_26 rfl (lv_at hl 2 rfl) ?_
      refine lv_iload_n hx hb dX4_set_27 rfl (lv_at hl 0 rfl) ?_
      refine va_getsN (v := .ref (e 1)) hx hb hG.z1 hS hown (gl_N.f hG.gN 29 rfl) (fun _ h9 => h9) dX4_set_28 ?_
      refine va_tlen hx hb hG.t1 hS (v := 6) rfl dX4_set_31 ?_
      refine lv_isub hx hb dX4_set_32 ?_
      refine lv_topi (fun x_2 ex_2 => ?_)
      obtain rfl : x_2 = nI (j - 6) := by rw [ex_2]; exact pk_sub (b := 6) (by omega)
      refine lv_iushr (v := ((nI bk).toUInt32 >>> ((nI (j - 6)).toUInt32 &&& Int32.toUInt32 31)).toInt32) hx hb dX4_set_33 (rfl) ?_
      refine lv_iconst (v := 1) hx hb dX4_set_34 (by decide +kernel) ?_
      refine lv_iand hx hb dX4_set_35 ?_
      refine lv_i2l (v := ((((nI bk).toUInt32 >>> ((nI (j - 6)).toUInt32 &&& Int32.toUInt32 31)).toInt32) &&& 1).toInt64) hx hb dX4_set_36 (rfl) ?_
      refine lv_lneg hx hb dX4_set_37 ?_
      refine lv_lstore_n (lv' := [(3, .long (-(((((nI bk).toUInt32 >>> ((nI (j - 6)).toUInt32 &&& Int32.toUInt32 31)).toInt32) &&& 1).toInt64))), (2, .int (nI j)), (0, .ref h0), (1, .int (nI bk))]) hx hb dX4_set_38 rfl hl (by decide) rfl (fun ls hl => ?_)
      refine lv_aload_n hx hb dX4_set_39 rfl (lv_at hl 2 rfl) ?_
      refine va_get (D := D) (ci := 5) (v := .ref us) (C := RX4) (T := TX4) (N := 5) hx hb hts iX4 hown hK hP 0 rfl rfl 1 (by decide) (hts (.fieldLink RX4 9 "InterlockTables$Survey" "used" "[I") (by decide +kernel)) (fun _ h9 => h9) rfl dX4_set_40 ?_
      refine lv_iload_n hx hb dX4_set_43 rfl (lv_at hl 1 rfl) ?_
      refine va_iald hx hb hK hP 1 1 rfl rfl (vp_in_nI (by omega) (by omega)) dX4_set_44 ?_
      refine lv_topi (fun x_3 ex_3 => ?_)
      obtain rfl : x_3 = nI ua := by rw [ex_3]; rw [nI_clamp (by omega)]; exact hua
      refine lv_istore (lv' := [(5, .int (nI ua)), (3, .long (-(((((nI bk).toUInt32 >>> ((nI (j - 6)).toUInt32 &&& Int32.toUInt32 31)).toInt32) &&& 1).toInt64))), (2, .int (nI j)), (0, .ref h0), (1, .int (nI bk))]) hx hb dX4_set_45 hl (by decide) rfl (fun ls hl => ?_)
      refine lv_iload hx hb dX4_set_47 (lv_at hl 0 rfl) ?_
      refine lv_if_lt (tgt := 70) hx hb dX4_set_49 (by decide) (fun c49 => absurd c49 (nI_pos (by omega))) (fun _ => ?_)
      refine lv_iload hx hb dX4_set_52 (lv_at hl 0 rfl) ?_
      refine lv_aload_n hx hb dX4_set_54 rfl (lv_at hl 3 rfl) ?_
      refine va_get (D := D) (ci := 5) (v := .ref se) (C := RX4) (T := TX4) (N := 5) hx hb hts iX4 hown hK hP 0 rfl rfl 3 (by decide) (hts (.fieldLink RX4 15 "InterlockTables$Survey" "settings" "[J") (by decide +kernel)) (fun _ h9 => h9) rfl dX4_set_55 ?_
      refine va_alen hx hb hK hP 2 2 rfl rfl (v := 16) rfl dX4_set_58 ?_
      refine lv_icmp_ge (tgt := 70) hx hb dX4_set_59 (by decide) (fun c59 => absurd c59 (nI_ge (a := ua) (b := 16) hua2 (by decide))) (fun _ => ?_)
      refine lv_aload_n hx hb dX4_set_62 rfl (lv_at hl 3 rfl) ?_
      refine va_get (D := D) (ci := 5) (v := .ref se) (C := RX4) (T := TX4) (N := 5) hx hb hts iX4 hown hK hP 0 rfl rfl 3 (by decide) (hts (.fieldLink RX4 15 "InterlockTables$Survey" "settings" "[J") (by decide +kernel)) (fun _ h9 => h9) rfl dX4_set_63 ?_
      refine lv_iload hx hb dX4_set_66 (lv_at hl 0 rfl) ?_
      refine lv_lload_n hx hb dX4_set_68 rfl (lv_at hl 1 rfl) ?_
      refine va_last hx hb hK hP hD hS 2 2 rfl rfl (vp_in_nI (by omega) (by omega)) dX4_set_69 (fun H locs hP hD hS => ?_)
      have hP : va_P D vwCl [(h0, .inr (5, [.ref tb, .ref us, .int (nI uc), .ref se, .ref co])), (us, .inl (cy 1, 16, .inl uf)), (se, .inl (cy 2, 16, .inr (.inl (vp_updL s1 (nI ua).toNatClampNeg (-(((((nI bk).toUInt32 >>> ((nI (j - 6)).toUInt32 &&& Int32.toUInt32 31)).toInt32) &&& 1).toInt64))))))] H := hP
      have hD : va_D A [(h0, .inr (5, [.ref tb, .ref us, .int (nI uc), .ref se, .ref co])), (us, .inl (cy 1, 16, .inl uf)), (se, .inl (cy 2, 16, .inr (.inl (vp_updL s1 (nI ua).toNatClampNeg (-(((((nI bk).toUInt32 >>> ((nI (j - 6)).toUInt32 &&& Int32.toUInt32 31)).toInt32) &&& 1).toInt64))))))] := hD
      have ef_69 : (vp_updL s1 (nI ua).toNatClampNeg (-(((((nI bk).toUInt32 >>> ((nI (j - 6)).toUInt32 &&& Int32.toUInt32 31)).toInt32) &&& 1).toInt64))) = (vp_updL s1 ua (-(((((nI bk).toUInt32 >>> ((nI (j - 6)).toUInt32 &&& Int32.toUInt32 31)).toInt32) &&& 1).toInt64))) := by rw [nI_clamp (by omega)]
      rw [ef_69] at hP hD
      refine lv_iinc (v := nI (j + 1)) (lv' := [(2, .int (nI (j + 1))), (5, .int (nI ua)), (3, .long (-(((((nI bk).toUInt32 >>> ((nI (j - 6)).toUInt32 &&& Int32.toUInt32 31)).toInt32) &&& 1).toInt64))), (0, .ref h0), (1, .int (nI bk))]) hx hb dX4_set_70 hl (k := 2) rfl (nI_1 j) (by decide) rfl (fun ls hl => ?_)
      refine lv_goto (tgt := 2) hx hb dX4_set_73 (by decide) ?_
      exact ih2 ((j + 1), (vp_updL s1 ua (-(((((nI bk).toUInt32 >>> ((nI (j - 6)).toUInt32 &&& Int32.toUInt32 31)).toInt32) &&& 1).toInt64)))) _ _ ls ⟨hP.sub [0, 1, 2] rfl, hD.sub [0, 1, 2] (by decide) rfl, hS, lv_sub hl [0, 3, 4] rfl, ⟨by omega, seI_s hI2 hus.2.1 hus.2.2.1 hj hua hua2 (if_neg (Nat.not_lt.mpr hj6)).symm⟩⟩ (by (try dsimp only); omega)
    · have hj6 : j < 6 := pk_nle (b := j) (a := 6) (by omega) c15
      refine va_getsN (v := .ref (e 1)) hx hb hG.z1 hS hown (gl_N.f hG.gN 29 rfl) (fun _ h9 => h9) dX4_set_18 ?_
      refine lv_iload_n hx hb dX4_set_21 rfl (lv_at hl 0 rfl) ?_
      refine va_tl hx hb hG.t1 hS (vp_in_nI (by omega) (by decide)) rfl dX4_set_22 ?_
      refine lv_topl (fun x_4 ex_4 => ?_)
      obtain rfl : x_4 = pat j := by rw [ex_4]; rw [nI_clamp (by omega)]
      refine lv_goto (tgt := 38) hx hb dX4_set_23 (by decide) ?_
      refine lv_lstore_n (lv' := [(3, .long (pat j)), (2, .int (nI j)), (0, .ref h0), (1, .int (nI bk))]) hx hb dX4_set_38 rfl hl (by decide) rfl (fun ls hl => ?_)
      refine lv_aload_n hx hb dX4_set_39 rfl (lv_at hl 2 rfl) ?_
      refine va_get (D := D) (ci := 5) (v := .ref us) (C := RX4) (T := TX4) (N := 5) hx hb hts iX4 hown hK hP 0 rfl rfl 1 (by decide) (hts (.fieldLink RX4 9 "InterlockTables$Survey" "used" "[I") (by decide +kernel)) (fun _ h9 => h9) rfl dX4_set_40 ?_
      refine lv_iload_n hx hb dX4_set_43 rfl (lv_at hl 1 rfl) ?_
      refine va_iald hx hb hK hP 1 1 rfl rfl (vp_in_nI (by omega) (by omega)) dX4_set_44 ?_
      refine lv_topi (fun x_5 ex_5 => ?_)
      obtain rfl : x_5 = nI ua := by rw [ex_5]; rw [nI_clamp (by omega)]; exact hua
      refine lv_istore (lv' := [(5, .int (nI ua)), (3, .long (pat j)), (2, .int (nI j)), (0, .ref h0), (1, .int (nI bk))]) hx hb dX4_set_45 hl (by decide) rfl (fun ls hl => ?_)
      refine lv_iload hx hb dX4_set_47 (lv_at hl 0 rfl) ?_
      refine lv_if_lt (tgt := 70) hx hb dX4_set_49 (by decide) (fun c49 => absurd c49 (nI_pos (by omega))) (fun _ => ?_)
      refine lv_iload hx hb dX4_set_52 (lv_at hl 0 rfl) ?_
      refine lv_aload_n hx hb dX4_set_54 rfl (lv_at hl 3 rfl) ?_
      refine va_get (D := D) (ci := 5) (v := .ref se) (C := RX4) (T := TX4) (N := 5) hx hb hts iX4 hown hK hP 0 rfl rfl 3 (by decide) (hts (.fieldLink RX4 15 "InterlockTables$Survey" "settings" "[J") (by decide +kernel)) (fun _ h9 => h9) rfl dX4_set_55 ?_
      refine va_alen hx hb hK hP 2 2 rfl rfl (v := 16) rfl dX4_set_58 ?_
      refine lv_icmp_ge (tgt := 70) hx hb dX4_set_59 (by decide) (fun c59 => absurd c59 (nI_ge (a := ua) (b := 16) hua2 (by decide))) (fun _ => ?_)
      refine lv_aload_n hx hb dX4_set_62 rfl (lv_at hl 3 rfl) ?_
      refine va_get (D := D) (ci := 5) (v := .ref se) (C := RX4) (T := TX4) (N := 5) hx hb hts iX4 hown hK hP 0 rfl rfl 3 (by decide) (hts (.fieldLink RX4 15 "InterlockTables$Survey" "settings" "[J") (by decide +kernel)) (fun _ h9 => h9) rfl dX4_set_63 ?_
      refine lv_iload hx hb dX4_set_66 (lv_at hl 0 rfl) ?_
      refine lv_lload_n hx hb dX4_set_68 rfl (lv_at hl 1 rfl) ?_
      refine va_last hx hb hK hP hD hS 2 2 rfl rfl (vp_in_nI (by omega) (by omega)) dX4_set_69 (fun H locs hP hD hS => ?_)
      have hP : va_P D vwCl [(h0, .inr (5, [.ref tb, .ref us, .int (nI uc), .ref se, .ref co])), (us, .inl (cy 1, 16, .inl uf)), (se, .inl (cy 2, 16, .inr (.inl (vp_updL s1 (nI ua).toNatClampNeg (pat j)))))] H := hP
      have hD : va_D A [(h0, .inr (5, [.ref tb, .ref us, .int (nI uc), .ref se, .ref co])), (us, .inl (cy 1, 16, .inl uf)), (se, .inl (cy 2, 16, .inr (.inl (vp_updL s1 (nI ua).toNatClampNeg (pat j)))))] := hD
      have ef_69 : (vp_updL s1 (nI ua).toNatClampNeg (pat j)) = (vp_updL s1 ua (pat j)) := by rw [nI_clamp (by omega)]
      rw [ef_69] at hP hD
      refine lv_iinc (v := nI (j + 1)) (lv' := [(2, .int (nI (j + 1))), (5, .int (nI ua)), (3, .long (pat j)), (0, .ref h0), (1, .int (nI bk))]) hx hb dX4_set_70 hl (k := 2) rfl (nI_1 j) (by decide) rfl (fun ls hl => ?_)
      refine lv_goto (tgt := 2) hx hb dX4_set_73 (by decide) ?_
      exact ih2 ((j + 1), (vp_updL s1 ua (pat j))) _ _ ls ⟨hP.sub [0, 1, 2] rfl, hD.sub [0, 1, 2] (by decide) rfl, hS, lv_sub hl [0, 3, 4] rfl, ⟨by omega, seI_s hI2 hus.2.1 hus.2.2.1 hj hua hua2 (if_pos hj6).symm⟩⟩ (by (try dsimp only); omega)

set_option maxHeartbeats 4000000 in
set_option maxRecDepth 100000 in
theorem c_markBlock (l : Launch) (D : va_G) (cy : Nat → ClassId) (e : Nat → Nat)  (h0 : Nat) (tb : Nat) (us : Nat) (se : Nat) (co : Nat) (ro : Nat) (xp : Nat) (wr : Value) (sv : Int32) (cd : Nat) (sz0 : Nat) (st : Nat) (n1 : Nat) (fc : Nat → Int32) (g : Nat → Int64) (mod : Int32) (ea : Nat) (ln : Nat) (na : Nat) (fl : Nat → Option Nat) (rs : List rwT) (uc : Int32) (cf : Nat → Int64) (sf : Nat → Int64) (vv : Nat → Int64) (hs : Nat → Nat → Bool) (sz : Nat) (hsz : sz0 ≤ n1) (hn1 : n1 < 65536) (hls : lsok e ea na fl rs) (hna : na ≤ 60) (hln : rs.length = ln) (hev : cev rs fc sz0 sf vv) (hac : ∀ (k : Nat) (x : rwT), rs[k]? = some x → ractP hs k x) (h12 : ∀ (k : Nat) (x : rwT), rs[k]? = some x → x.2.2.1 12 = 0 ∨ x.2.2.1 12 = 1) : Met l yX4_markBlock wsX4_markBlock ({ frames := 3, cells := 0, slots := 0, locals := 72 }) (va_Pc [.ref h0] (mt_B D cy e ([(h0, .inr (5, [.ref tb, .ref us, .int uc, .ref se, .ref co])), (co, .inl (cy 2, 32, .inr (.inl cf))), (se, .inl (cy 2, 16, .inr (.inl sf))), (tb, .inr (6, [.ref ro, .ref xp, wr, .int sv])), (ro, .inr (0, [.int mod, .ref ea, .int (nI ln)])), (xp, .inr (2, [.ref cd, .int (nI sz0), .ref st])), (cd, .inl (cy 0, n1, .inl fc)), (st, .inl (cy 2, 32, .inr (.inl g)))] ++ (ltail cy ea na fl rs)) sz)) (va_Qi (fun (r : Int32) (u : List rwT × (Nat → Int64) × (Nat → Int64) × Nat) => match u with | (rs2, g2, cf2, md2) => (lsok e ea na fl rs2 ∧ rs2.length = ln) ∧ rup rs rs2 (mbP (Fr hs vv)) ∧ r = nI md2 ∧ cz rs2 + md2 = cz rs) (mt_Q D (fun (u : List rwT × (Nat → Int64) × (Nat → Int64) × Nat) => match u with | (rs2, g2, cf2, md2) => ([(h0, .inr (5, [.ref tb, .ref us, .int uc, .ref se, .ref co])), (co, .inl (cy 2, 32, .inr (.inl cf2))), (se, .inl (cy 2, 16, .inr (.inl sf))), (tb, .inr (6, [.ref ro, .ref xp, wr, .int sv])), (ro, .inr (0, [.int mod, .ref ea, .int (nI ln)])), (xp, .inr (2, [.ref cd, .int (nI sz0), .ref st])), (cd, .inl (cy 0, n1, .inl fc)), (st, .inl (cy 2, 32, .inr (.inl g2)))] ++ (ltail cy ea na fl rs2))) (va_A ([(h0, .inr (5, [.ref tb, .ref us, .int uc, .ref se, .ref co])), (co, .inl (cy 2, 32, .inr (.inl cf))), (se, .inl (cy 2, 16, .inr (.inl sf))), (tb, .inr (6, [.ref ro, .ref xp, wr, .int sv])), (ro, .inr (0, [.int mod, .ref ea, .int (nI ln)])), (xp, .inr (2, [.ref cd, .int (nI sz0), .ref st])), (cd, .inl (cy 0, n1, .inl fc)), (st, .inl (cy 2, 32, .inr (.inl g)))] ++ (ltail cy ea na fl rs)) sz)) (va_A ([(h0, .inr (5, [.ref tb, .ref us, .int uc, .ref se, .ref co])), (co, .inl (cy 2, 32, .inr (.inl cf))), (se, .inl (cy 2, 16, .inr (.inl sf))), (tb, .inr (6, [.ref ro, .ref xp, wr, .int sv])), (ro, .inr (0, [.int mod, .ref ea, .int (nI ln)])), (xp, .inr (2, [.ref cd, .int (nI sz0), .ref st])), (cd, .inl (cy 0, n1, .inl fc)), (st, .inl (cy 2, 32, .inr (.inl g)))] ++ (ltail cy ea na fl rs)) sz)) (0) (0) (va_A ([(h0, .inr (5, [.ref tb, .ref us, .int uc, .ref se, .ref co])), (co, .inl (cy 2, 32, .inr (.inl cf))), (se, .inl (cy 2, 16, .inr (.inl sf))), (tb, .inr (6, [.ref ro, .ref xp, wr, .int sv])), (ro, .inr (0, [.int mod, .ref ea, .int (nI ln)])), (xp, .inr (2, [.ref cd, .int (nI sz0), .ref st])), (cd, .inl (cy 0, n1, .inl fc)), (st, .inl (cy 2, 32, .inr (.inl g)))] ++ (ltail cy ea na fl rs)) sz) := by
  refine Met.ofW (cc := cX4_markBlock) (maxL := 5) (ret := (some .int)) (by decide) rfl ?_
  intro p ev s m args below meth c s₁ B hml hv
  obtain ⟨rfl, hsz, hP, hK, hD0, hG⟩ := hv
  have hx := B.exec
  have hb := B.bytes
  have hr := B.returns
  have hts := atoms_spec (ws := wsX4_markBlock) B.pre
  have hown : s.vm.findClass RX4 = some m.cls := findClass_of_methodNamed B.named
  have hlocks := B.notSynchronized
  subst hsz
  have hD := hD0.self (sz := s.heap.size)
  generalize hAe : va_A ([(h0, .inr (5, [.ref tb, .ref us, .int uc, .ref se, .ref co])), (co, .inl (cy 2, 32, .inr (.inl cf))), (se, .inl (cy 2, 16, .inr (.inl sf))), (tb, .inr (6, [.ref ro, .ref xp, wr, .int sv])), (ro, .inr (0, [.int mod, .ref ea, .int (nI ln)])), (xp, .inr (2, [.ref cd, .int (nI sz0), .ref st])), (cd, .inl (cy 0, n1, .inl fc)), (st, .inl (cy 2, 32, .inr (.inl g)))] ++ (ltail cy ea na fl rs)) s.heap.size = A at hD hG ⊢
  have hA : ∀ q : Nat, s.heap.size ≤ q → A q := fun q h => by rw [← hAe]; exact Or.inr h
  have hS : va_S A s.heap s.heap [] := va_S.rf
  have hP : va_P D vwCl ([(h0, .inr (5, [.ref tb, .ref us, .int uc, .ref se, .ref co])), (co, .inl (cy 2, 32, .inr (.inl cf))), (se, .inl (cy 2, 16, .inr (.inl sf))), (tb, .inr (6, [.ref ro, .ref xp, wr, .int sv])), (ro, .inr (0, [.int mod, .ref ea, .int (nI ln)])), (xp, .inr (2, [.ref cd, .int (nI sz0), .ref st])), (cd, .inl (cy 0, n1, .inl fc)), (st, .inl (cy 2, 32, .inr (.inl g)))] ++ (ltail cy ea na fl rs)) s.heap := hP
  have iX4 : ∀ w ∈ wsX40, w ∈ wsX4_markBlock := fun w h => List.mem_cons_of_mem _ (List.mem_append_left _ (List.mem_append_left _ (List.mem_append_left _ (List.mem_append_left _ (List.mem_append_right _ h)))))
  have iX5 : ∀ w ∈ wsX50, w ∈ wsX4_markBlock := fun w h => List.mem_cons_of_mem _ (List.mem_append_left _ (List.mem_append_left _ (List.mem_append_left _ (List.mem_append_right _ h))))
  have iX3 : ∀ w ∈ wsX30, w ∈ wsX4_markBlock := fun w h => List.mem_cons_of_mem _ (List.mem_append_left _ (List.mem_append_left _ (List.mem_append_right _ h)))
  have iJx4a65c : ∀ w ∈ wsJx4a65c0, w ∈ wsX4_markBlock := fun w h => List.mem_cons_of_mem _ (List.mem_append_left _ (List.mem_append_right _ h))
  have iX1 : ∀ w ∈ wsX10, w ∈ wsX4_markBlock := fun w h => List.mem_cons_of_mem _ (List.mem_append_right _ h)
  have hl := lv_entry ([.ref h0]) (n := 5) (Nat.le_of_ble_eq_true rfl)
  rw [lg_entry_eq]
  generalize (lg_sl ([.ref h0]) ++ List.replicate (5 - (lg_sl ([.ref h0])).length) Slot.unset).toArray = ls at hl ⊢
  have hl : lv_has ls 5 [(0, .ref h0)] := hl
  refine lv_aload_n hx hb dX4_markBlock_0 rfl (lv_at hl 0 rfl) ?_
  refine va_get (D := D) (ci := 5) (v := .ref co) (C := RX4) (T := TX4) (N := 5) hx hb hts iX4 hown hK hP 0 rfl rfl 4 (by decide) (hts (.fieldLink RX4 19 "InterlockTables$Survey" "covered" "[J") (by decide +kernel)) (fun _ h9 => h9) rfl dX4_markBlock_1 ?_
  refine lv_lconst (v := 0) hx hb dX4_markBlock_4 (by decide +kernel) ?_
  refine mt_callvQ (wr := [(h0, .inr (5, [.ref tb, .ref us, .int uc, .ref se, .ref co])), (se, .inl (cy 2, 16, .inr (.inl sf))), (tb, .inr (6, [.ref ro, .ref xp, wr, .int sv])), (ro, .inr (0, [.int mod, .ref ea, .int (nI ln)])), (xp, .inr (2, [.ref cd, .int (nI sz0), .ref st])), (cd, .inl (cy 0, n1, .inl fc)), (st, .inl (cy 2, 32, .inr (.inl g)))]) (va_runS (As := [.ref co, .long 0]) (rest := []) ⟨hx, hb, hml, hown, hts⟩ (c_fill l D cy e co 32 cf 0 s.heap.size (by decide)) (va_cwS 2 hts gX4_markBlock_J7_fill_d0a16 rfl rfl rfl (by decide +kernel) ⟨Nat.le_of_ble_eq_true rfl, Nat.le_of_ble_eq_true rfl⟩) (mt_preS hP hD hK hS hA hG [1] rfl (by decide)) rfl rfl hl.1 rfl (lv_room (Nat.le_of_ble_eq_true rfl)) dX4_markBlock_5 ⟨(Nat.le_of_ble_eq_true rfl), (Nat.le_of_ble_eq_true rfl)⟩) hP hD hS hA [1] [0, 2, 3, 4, 5, 6, 7] rfl rfl rfl (by decide) (by decide) (fun u H locs hw hP hD hS => ?_)
  obtain ⟨f2_5, rfl⟩ : ∃ z, z = u := ⟨_, rfl⟩
  have hP : va_P D vwCl ([(h0, .inr (5, [.ref tb, .ref us, .int uc, .ref se, .ref co])), (se, .inl (cy 2, 16, .inr (.inl sf))), (tb, .inr (6, [.ref ro, .ref xp, wr, .int sv])), (ro, .inr (0, [.int mod, .ref ea, .int (nI ln)])), (xp, .inr (2, [.ref cd, .int (nI sz0), .ref st])), (cd, .inl (cy 0, n1, .inl fc)), (st, .inl (cy 2, 32, .inr (.inl g))), (co, .inl (cy 2, 32, .inr (.inl f2_5)))] ++ (ltail cy ea na fl rs)) H := hP
  have hD : va_D A ([(h0, .inr (5, [.ref tb, .ref us, .int uc, .ref se, .ref co])), (se, .inl (cy 2, 16, .inr (.inl sf))), (tb, .inr (6, [.ref ro, .ref xp, wr, .int sv])), (ro, .inr (0, [.int mod, .ref ea, .int (nI ln)])), (xp, .inr (2, [.ref cd, .int (nI sz0), .ref st])), (cd, .inl (cy 0, n1, .inl fc)), (st, .inl (cy 2, 32, .inr (.inl g))), (co, .inl (cy 2, 32, .inr (.inl f2_5)))] ++ (ltail cy ea na fl rs)) := hD
  replace hw : ∀ t, t < 32 → f2_5 t = 0 := hw
  refine W.widen (k := 0) (n := 0) (by omega) (by omega) ?_
  have hw5 := hw
  refine lv_iconst (v := 0) hx hb dX4_markBlock_8 (by decide +kernel) ?_
  refine lv_topi (fun x_1 ex_1 => ?_)
  obtain rfl : x_1 = nI 0 := by rw [ex_1]; exact nI_0.symm
  refine lv_istore_n (lv' := [(1, .int (nI 0)), (0, .ref h0)]) hx hb dX4_markBlock_9 rfl hl (by decide) rfl (fun ls hl => ?_)
  refine lv_iconst (v := 0) hx hb dX4_markBlock_10 (by decide +kernel) ?_
  refine lv_topi (fun x_2 ex_2 => ?_)
  obtain rfl : x_2 = nI 0 := by rw [ex_2]; exact nI_0.symm
  refine lv_istore_n (lv' := [(2, .int (nI 0)), (1, .int (nI 0)), (0, .ref h0)]) hx hb dX4_markBlock_11 rfl hl (by decide) rfl (fun ls hl => ?_)
  refine lp_W (σ := Nat × List rwT × (Nat → Int64) × (Nat → Int64) × Nat) (Wf := fun H locs ls => W p l ev _ s m _ below meth c H locs (0) (0) _ (F0 m 12 ls [])) (fun zz9 H locs ls => match zz9 with | (i, rs1, g1, c1, md) => va_P D vwCl ([(h0, .inr (5, [.ref tb, .ref us, .int uc, .ref se, .ref co])), (co, .inl (cy 2, 32, .inr (.inl c1))), (se, .inl (cy 2, 16, .inr (.inl sf))), (tb, .inr (6, [.ref ro, .ref xp, wr, .int sv])), (ro, .inr (0, [.int mod, .ref ea, .int (nI ln)])), (xp, .inr (2, [.ref cd, .int (nI sz0), .ref st])), (cd, .inl (cy 0, n1, .inl fc)), (st, .inl (cy 2, 32, .inr (.inl g1)))] ++ (ltail cy ea na fl rs1)) H ∧ va_D A ([(h0, .inr (5, [.ref tb, .ref us, .int uc, .ref se, .ref co])), (co, .inl (cy 2, 32, .inr (.inl c1))), (se, .inl (cy 2, 16, .inr (.inl sf))), (tb, .inr (6, [.ref ro, .ref xp, wr, .int sv])), (ro, .inr (0, [.int mod, .ref ea, .int (nI ln)])), (xp, .inr (2, [.ref cd, .int (nI sz0), .ref st])), (cd, .inl (cy 0, n1, .inl fc)), (st, .inl (cy 2, 32, .inr (.inl g1)))] ++ (ltail cy ea na fl rs1)) ∧ va_S A s.heap H locs ∧ lv_has ls 5 [(2, .int (nI i)), (1, .int (nI md)), (0, .ref h0)] ∧ (i ≤ ln ∧ lsok e ea na fl rs1 ∧ rs1.length = ln ∧ lpI rs rs1 i (mbP (Fr hs vv)) ∧ (∀ a, a < 32 → c1 a = cvr hs vv i a) ∧ cz rs1 + md = cz rs)) (fun zz9 => match zz9 with | (i, rs1, g1, c1, md) => ln - i) ?_ (0, rs, g, f2_5, 0) _ _ ls ⟨tl_subP hP [0, 7, 1, 2, 3, 4, 5, 6] rfl, tl_subD hD [0, 7, 1, 2, 3, 4, 5, 6] (by decide) rfl, hS, lv_sub hl [0, 1, 2] rfl, ⟨Nat.zero_le _, hls, hln, lpI_0, fun a ha => hw5 a ha, Nat.add_zero _⟩⟩
  intro zz9 H locs ls hI ih
  obtain ⟨i, rs1, g1, c1, md⟩ := zz9
  obtain ⟨hP, hD, hS, hl, hI⟩ := hI
  have ih12 := ih
  have hI12 := hI
  have hP : va_P D vwCl ([(h0, .inr (5, [.ref tb, .ref us, .int uc, .ref se, .ref co])), (co, .inl (cy 2, 32, .inr (.inl c1))), (se, .inl (cy 2, 16, .inr (.inl sf))), (tb, .inr (6, [.ref ro, .ref xp, wr, .int sv])), (ro, .inr (0, [.int mod, .ref ea, .int (nI ln)])), (xp, .inr (2, [.ref cd, .int (nI sz0), .ref st])), (cd, .inl (cy 0, n1, .inl fc)), (st, .inl (cy 2, 32, .inr (.inl g1)))] ++ (ltail cy ea na fl rs1)) H := hP
  have hD : va_D A ([(h0, .inr (5, [.ref tb, .ref us, .int uc, .ref se, .ref co])), (co, .inl (cy 2, 32, .inr (.inl c1))), (se, .inl (cy 2, 16, .inr (.inl sf))), (tb, .inr (6, [.ref ro, .ref xp, wr, .int sv])), (ro, .inr (0, [.int mod, .ref ea, .int (nI ln)])), (xp, .inr (2, [.ref cd, .int (nI sz0), .ref st])), (cd, .inl (cy 0, n1, .inl fc)), (st, .inl (cy 2, 32, .inr (.inl g1)))] ++ (ltail cy ea na fl rs1)) := hD
  have hl : lv_has ls 5 [(2, .int (nI i)), (1, .int (nI md)), (0, .ref h0)] := hl
  obtain ⟨hI1, hI2, hI3, hI4, hI5, hI6⟩ := hI
  refine lv_iload_n hx hb dX4_markBlock_12 rfl (lv_at hl 0 rfl) ?_
  refine lv_aload_n hx hb dX4_markBlock_13 rfl (lv_at hl 2 rfl) ?_
  refine va_get (D := D) (ci := 5) (v := .ref tb) (C := RX4) (T := TX4) (N := 5) hx hb hts iX4 hown hK hP 0 rfl rfl 0 (by decide) (hts (.fieldLink RX4 22 "InterlockTables$Survey" "table" "LInterlockTables$Table;") (by decide +kernel)) (fun _ h9 => h9) rfl dX4_markBlock_14 ?_
  refine pu_calli (va_runV (As := []) (rest := [.int (nI i)]) ⟨hx, hb, hml, hown, hts⟩ (c_Table_size l D cy e tb ro xp wr sv mod (.ref ea) (nI ln) ) (cwV 0 hts gX4_markBlock_X5_size rfl rfl rfl (by decide +kernel) ⟨Nat.le_of_ble_eq_true rfl, Nat.le_of_ble_eq_true rfl⟩) (pu_preV hP hK hS hG [3, 4] rfl (q := (RX5, TX5, 4)) (ci := 6) (q0 := 3) rfl rfl) rfl rfl hl.1 rfl (lv_room (Nat.le_of_ble_eq_true rfl)) dX4_markBlock_17 ⟨(Nat.le_of_ble_eq_true rfl), (Nat.le_of_ble_eq_true rfl)⟩) hP hS (fun H locs hP hS => ?_)
  have hP : va_P D vwCl ([(h0, .inr (5, [.ref tb, .ref us, .int uc, .ref se, .ref co])), (co, .inl (cy 2, 32, .inr (.inl c1))), (se, .inl (cy 2, 16, .inr (.inl sf))), (tb, .inr (6, [.ref ro, .ref xp, wr, .int sv])), (ro, .inr (0, [.int mod, .ref ea, .int (nI ln)])), (xp, .inr (2, [.ref cd, .int (nI sz0), .ref st])), (cd, .inl (cy 0, n1, .inl fc)), (st, .inl (cy 2, 32, .inr (.inl g1)))] ++ (ltail cy ea na fl rs1)) H := hP
  refine lv_icmp_ge (tgt := 83) hx hb dX4_markBlock_20 (by decide) (fun c20 => ?_) (fun c20 => ?_)
  · have hge : ln ≤ i := (nI_leI (by have h9 := hls.2.2.1; omega) (by have h9 := hls.2.2.1; omega)).mp c20
    refine lv_iload_n hx hb dX4_markBlock_83 rfl (lv_at hl 1 rfl) ?_
    have hP9 : va_P D vwCl ([(h0, .inr (5, [.ref tb, .ref us, .int uc, .ref se, .ref co])), (co, .inl (cy 2, 32, .inr (.inl c1))), (se, .inl (cy 2, 16, .inr (.inl sf))), (tb, .inr (6, [.ref ro, .ref xp, wr, .int sv])), (ro, .inr (0, [.int mod, .ref ea, .int (nI ln)])), (xp, .inr (2, [.ref cd, .int (nI sz0), .ref st])), (cd, .inl (cy 0, n1, .inl fc)), (st, .inl (cy 2, 32, .inr (.inl g1)))] ++ (ltail cy ea na fl rs1)) H := tl_subP hP [0, 1, 2, 3, 4, 5, 6, 7] rfl
    have hD9 : va_D A ([(h0, .inr (5, [.ref tb, .ref us, .int uc, .ref se, .ref co])), (co, .inl (cy 2, 32, .inr (.inl c1))), (se, .inl (cy 2, 16, .inr (.inl sf))), (tb, .inr (6, [.ref ro, .ref xp, wr, .int sv])), (ro, .inr (0, [.int mod, .ref ea, .int (nI ln)])), (xp, .inr (2, [.ref cd, .int (nI sz0), .ref st])), (cd, .inl (cy 0, n1, .inl fc)), (st, .inl (cy 2, 32, .inr (.inl g1)))] ++ (ltail cy ea na fl rs1)) := tl_subD hD [0, 1, 2, 3, 4, 5, 6, 7] (by decide) rfl
    refine W.widen (k := 0) (n := 0) (by omega) (by omega) ?_
    exact W.iret hx hb hr (fun t ht hW => ⟨⟨_, (rs1, g1, c1, md), rfl, ⟨⟨hI2, hI3⟩, lpI_e hI4 (by omega), rfl, hI6⟩, by rw [ht]; exact hP9, hD9⟩, hS.F ht⟩) hS.2.2 dX4_markBlock_84
  · have hi : i < ln := pk_nle (by have h9 := hls.2.2.1; omega) c20
    refine lv_aload_n hx hb dX4_markBlock_23 rfl (lv_at hl 2 rfl) ?_
    refine va_get (D := D) (ci := 5) (v := .ref tb) (C := RX4) (T := TX4) (N := 5) hx hb hts iX4 hown hK hP 0 rfl rfl 0 (by decide) (hts (.fieldLink RX4 22 "InterlockTables$Survey" "table" "LInterlockTables$Table;") (by decide +kernel)) (fun _ h9 => h9) rfl dX4_markBlock_24 ?_
    refine va_getN (D := D) (ci := 6) (v := .ref ro) (C := RX5) (T := TX5) (N := 4) hx hb hts iX5 hown hK hP 3 rfl rfl 0 (by decide) (gl_N.f hG.gN 1 rfl) (fun _ h9 => h9) rfl dX4_markBlock_27 ?_
    refine lv_iload_n hx hb dX4_markBlock_30 rfl (lv_at hl 0 rfl) ?_
    obtain ⟨pre, xx, post, hrs, hpl⟩ := foc_split (rs := rs1) (i := i) (by omega)
    obtain ⟨ra, ab, fi, fa⟩ := xx
    subst hrs
    replace hP : va_P D vwCl ([(h0, .inr (5, [.ref tb, .ref us, .int uc, .ref se, .ref co])), (co, .inl (cy 2, 32, .inr (.inl c1))), (se, .inl (cy 2, 16, .inr (.inl sf))), (tb, .inr (6, [.ref ro, .ref xp, wr, .int sv])), (ro, .inr (0, [.int mod, .ref ea, .int (nI ln)])), (xp, .inr (2, [.ref cd, .int (nI sz0), .ref st])), (cd, .inl (cy 0, n1, .inl fc)), (st, .inl (cy 2, 32, .inr (.inl g1))), (ea, .inl (cy 5, na, .inr (.inr (.inr (.inr fl))))), (ra, .inr (4, [.ref ab, .int (fi 1), .int (fi 2), .int (fi 3), .int (fi 4), .int (fi 5), .int (fi 6), .int (fi 7), .int (fi 8), .int (fi 9), .int (fi 10), .int (fi 11), .int (fi 12)])), (ab, .inl (cy 1, 8, .inl fa))] ++ (rpool cy (pre ++ post))) H := tl_Pp (foc_perm (X := [(h0, .inr (5, [.ref tb, .ref us, .int uc, .ref se, .ref co])), (co, .inl (cy 2, 32, .inr (.inl c1))), (se, .inl (cy 2, 16, .inr (.inl sf))), (tb, .inr (6, [.ref ro, .ref xp, wr, .int sv])), (ro, .inr (0, [.int mod, .ref ea, .int (nI ln)])), (xp, .inr (2, [.ref cd, .int (nI sz0), .ref st])), (cd, .inl (cy 0, n1, .inl fc)), (st, .inl (cy 2, 32, .inr (.inl g1)))])) hP
    replace hD : va_D A ([(h0, .inr (5, [.ref tb, .ref us, .int uc, .ref se, .ref co])), (co, .inl (cy 2, 32, .inr (.inl c1))), (se, .inl (cy 2, 16, .inr (.inl sf))), (tb, .inr (6, [.ref ro, .ref xp, wr, .int sv])), (ro, .inr (0, [.int mod, .ref ea, .int (nI ln)])), (xp, .inr (2, [.ref cd, .int (nI sz0), .ref st])), (cd, .inl (cy 0, n1, .inl fc)), (st, .inl (cy 2, 32, .inr (.inl g1))), (ea, .inl (cy 5, na, .inr (.inr (.inr (.inr fl))))), (ra, .inr (4, [.ref ab, .int (fi 1), .int (fi 2), .int (fi 3), .int (fi 4), .int (fi 5), .int (fi 6), .int (fi 7), .int (fi 8), .int (fi 9), .int (fi 10), .int (fi 11), .int (fi 12)])), (ab, .inl (cy 1, 8, .inl fa))] ++ (rpool cy (pre ++ post))) := tl_Dp (foc_perm (X := [(h0, .inr (5, [.ref tb, .ref us, .int uc, .ref se, .ref co])), (co, .inl (cy 2, 32, .inr (.inl c1))), (se, .inl (cy 2, 16, .inr (.inl sf))), (tb, .inr (6, [.ref ro, .ref xp, wr, .int sv])), (ro, .inr (0, [.int mod, .ref ea, .int (nI ln)])), (xp, .inr (2, [.ref cd, .int (nI sz0), .ref st])), (cd, .inl (cy 0, n1, .inl fc)), (st, .inl (cy 2, 32, .inr (.inl g1)))])) hD
    have hxi : rs[i]? = some (ra, ab, fi, fa) := lpI_x hI4 hpl
    obtain ⟨b9, c9, hb4, hb5, hbz9, hsg9, hv9⟩ := hev i _ hxi
    replace hb4 : fi 4 = nI b9 := hb4
    replace hb5 : fi 5 = nI (b9 + c9.length) := hb5
    obtain ⟨al9, hal1, hal2, hal3, hal4, hal5⟩ := hac i _ hxi
    replace hal1 : fi 1 = nI al9.length := hal1
    replace hal3 : fp_seg fa 0 al9 := hal3
    refine pu_callq (va_runV (As := [.int (nI i)]) (rest := []) ⟨hx, hb, hml, hown, hts⟩ (c_get l D cy e ro mod ea ln na fl i ra (by have h9 := hI2.2.2.1; omega) (by rw [← hpl]; exact ls_at hI2)) (cwV 1 hts gX4_markBlock_Jx4a65c_get_915e3 rfl rfl rfl (by decide +kernel) ⟨Nat.le_of_ble_eq_true rfl, Nat.le_of_ble_eq_true rfl⟩) (pu_preV hP hK hS hG [4, 8] rfl (q := (RJx4a65c, TJx4a65c, 3)) (ci := 0) (q0 := 4) rfl rfl) rfl rfl hl.1 rfl (lv_room (Nat.le_of_ble_eq_true rfl)) dX4_markBlock_31 ⟨(Nat.le_of_ble_eq_true rfl), (Nat.le_of_ble_eq_true rfl)⟩) hP hS (fun H locs hP hS => ?_)
    have hP : va_P D vwCl ([(h0, .inr (5, [.ref tb, .ref us, .int uc, .ref se, .ref co])), (co, .inl (cy 2, 32, .inr (.inl c1))), (se, .inl (cy 2, 16, .inr (.inl sf))), (tb, .inr (6, [.ref ro, .ref xp, wr, .int sv])), (ro, .inr (0, [.int mod, .ref ea, .int (nI ln)])), (xp, .inr (2, [.ref cd, .int (nI sz0), .ref st])), (cd, .inl (cy 0, n1, .inl fc)), (st, .inl (cy 2, 32, .inr (.inl g1))), (ea, .inl (cy 5, na, .inr (.inr (.inr (.inr fl))))), (ra, .inr (4, [.ref ab, .int (fi 1), .int (fi 2), .int (fi 3), .int (fi 4), .int (fi 5), .int (fi 6), .int (fi 7), .int (fi 8), .int (fi 9), .int (fi 10), .int (fi 11), .int (fi 12)])), (ab, .inl (cy 1, 8, .inl fa))] ++ (rpool cy (pre ++ post))) H := hP
    refine va_castY (C := RX3) hx hb hown (hts (.classLink RX4 86 RX3) (by decide +kernel)) hG.gX.2.2.2.2.2.1 (va_recv hK hP (q := (RX3, TX3, 13)) (ci := 4) (q0 := 9) rfl rfl) dX4_markBlock_34 ?_
    refine lv_astore_n (lv' := [(3, .ref ra), (2, .int (nI i)), (1, .int (nI md)), (0, .ref h0)]) hx hb dX4_markBlock_37 rfl hl (by decide) rfl (fun ls hl => ?_)
    refine lv_aload_n hx hb dX4_markBlock_38 rfl (lv_at hl 3 rfl) ?_
    refine lv_aload_n hx hb dX4_markBlock_39 rfl (lv_at hl 0 rfl) ?_
    refine lv_aload_n hx hb dX4_markBlock_40 rfl (lv_at hl 3 rfl) ?_
    refine va_get (D := D) (ci := 5) (v := .ref tb) (C := RX4) (T := TX4) (N := 5) hx hb hts iX4 hown hK hP 0 rfl rfl 0 (by decide) (hts (.fieldLink RX4 22 "InterlockTables$Survey" "table" "LInterlockTables$Table;") (by decide +kernel)) (fun _ h9 => h9) rfl dX4_markBlock_41 ?_
    refine lv_aload_n hx hb dX4_markBlock_44 rfl (lv_at hl 0 rfl) ?_
    refine lv_aload_n hx hb dX4_markBlock_45 rfl (lv_at hl 3 rfl) ?_
    refine va_get (D := D) (ci := 5) (v := .ref se) (C := RX4) (T := TX4) (N := 5) hx hb hts iX4 hown hK hP 0 rfl rfl 3 (by decide) (hts (.fieldLink RX4 15 "InterlockTables$Survey" "settings" "[J") (by decide +kernel)) (fun _ h9 => h9) rfl dX4_markBlock_46 ?_
    refine mt_calllQ (wr := [(h0, .inr (5, [.ref tb, .ref us, .int uc, .ref se, .ref co])), (co, .inl (cy 2, 32, .inr (.inl c1))), (ro, .inr (0, [.int mod, .ref ea, .int (nI ln)])), (ea, .inl (cy 5, na, .inr (.inr (.inr (.inr fl))))), (ab, .inl (cy 1, 8, .inl fa))]) (va_runV (As := [.ref ra, .ref se]) (rest := [.ref ra, .ref h0]) ⟨hx, hb, hml, hown, hts⟩ (c_Table_valueOfF l D cy e tb ro xp wr sv cd sz0 st n1 fc g1 se sf ra ab (fi 1) (fi 2) (fi 3) (fi 4) (fi 5) (fi 6) (fi 7) (fi 8) (fi 9) (fi 10) (fi 11) (fi 12) b9 c9 (vv i) H.size hsz hn1 hb4 hb5 hsg9 hbz9 hv9) (cwV 2 hts gX4_markBlock_X5_valueOf rfl rfl rfl (by decide +kernel) ⟨Nat.le_of_ble_eq_true rfl, Nat.le_of_ble_eq_true rfl⟩) (mt_preV hP hD hK hS hA hG [3, 5, 6, 7, 2, 9] rfl (by decide) (q := (RX5, TX5, 4)) (ci := 6) (q0 := 3) rfl rfl) rfl rfl hl.1 rfl (lv_room (Nat.le_of_ble_eq_true rfl)) dX4_markBlock_49 ⟨(Nat.le_of_ble_eq_true rfl), (Nat.le_of_ble_eq_true rfl)⟩) hP hD hS hA [3, 5, 6, 7, 2, 9] [0, 1, 4, 8, 10] rfl rfl rfl (by decide) (by decide) (fun r49 u H locs hw hP hD hS => ?_)
    obtain ⟨g2_49, rfl⟩ : ∃ z, z = u := ⟨_, rfl⟩
    have hP : va_P D vwCl ([(h0, .inr (5, [.ref tb, .ref us, .int uc, .ref se, .ref co])), (co, .inl (cy 2, 32, .inr (.inl c1))), (ro, .inr (0, [.int mod, .ref ea, .int (nI ln)])), (ea, .inl (cy 5, na, .inr (.inr (.inr (.inr fl))))), (ab, .inl (cy 1, 8, .inl fa)), (tb, .inr (6, [.ref ro, .ref xp, wr, .int sv])), (xp, .inr (2, [.ref cd, .int (nI sz0), .ref st])), (cd, .inl (cy 0, n1, .inl fc)), (st, .inl (cy 2, 32, .inr (.inl g2_49))), (se, .inl (cy 2, 16, .inr (.inl sf))), (ra, .inr (4, [.ref ab, .int (fi 1), .int (fi 2), .int (fi 3), .int (fi 4), .int (fi 5), .int (fi 6), .int (fi 7), .int (fi 8), .int (fi 9), .int (fi 10), .int (fi 11), .int (fi 12)]))] ++ (rpool cy (pre ++ post))) H := hP
    have hD : va_D A ([(h0, .inr (5, [.ref tb, .ref us, .int uc, .ref se, .ref co])), (co, .inl (cy 2, 32, .inr (.inl c1))), (ro, .inr (0, [.int mod, .ref ea, .int (nI ln)])), (ea, .inl (cy 5, na, .inr (.inr (.inr (.inr fl))))), (ab, .inl (cy 1, 8, .inl fa)), (tb, .inr (6, [.ref ro, .ref xp, wr, .int sv])), (xp, .inr (2, [.ref cd, .int (nI sz0), .ref st])), (cd, .inl (cy 0, n1, .inl fc)), (st, .inl (cy 2, 32, .inr (.inl g2_49))), (se, .inl (cy 2, 16, .inr (.inl sf))), (ra, .inr (4, [.ref ab, .int (fi 1), .int (fi 2), .int (fi 3), .int (fi 4), .int (fi 5), .int (fi 6), .int (fi 7), .int (fi 8), .int (fi 9), .int (fi 10), .int (fi 11), .int (fi 12)]))] ++ (rpool cy (pre ++ post))) := hD
    replace hw : r49 = vv i := hw
    refine W.widen (k := 0) (n := 0) (by omega) (by omega) ?_
    subst hw
    refine mt_calliQ (wr := [(ro, .inr (0, [.int mod, .ref ea, .int (nI ln)])), (ea, .inl (cy 5, na, .inr (.inr (.inr (.inr fl))))), (tb, .inr (6, [.ref ro, .ref xp, wr, .int sv])), (xp, .inr (2, [.ref cd, .int (nI sz0), .ref st])), (cd, .inl (cy 0, n1, .inl fc)), (st, .inl (cy 2, 32, .inr (.inl g2_49))), (se, .inl (cy 2, 16, .inr (.inl sf)))]) (va_runV (As := [.ref ra, .long (vv i)]) (rest := []) ⟨hx, hb, hml, hown, hts⟩ (c_cover l D cy e h0 tb us se co uc c1 ra ab (fi 1) (fi 2) (fi 3) (fi 4) (fi 5) (fi 6) (fi 7) (fi 8) (fi 9) (fi 10) (fi 11) (fi 12) fa (vv i) al9 H.size hal1 hal2 hal3 hal4) (cwV 2 hts gX4_markBlock_X4_cover rfl rfl rfl (by decide +kernel) ⟨Nat.le_of_ble_eq_true rfl, Nat.le_of_ble_eq_true rfl⟩) (mt_preV hP hD hK hS hA hG [0, 1, 10, 4] rfl (by decide) (q := (RX4, TX4, 5)) (ci := 5) (q0 := 0) rfl rfl) rfl rfl hl.1 rfl (lv_room (Nat.le_of_ble_eq_true rfl)) dX4_markBlock_52 ⟨(Nat.le_of_ble_eq_true rfl), (Nat.le_of_ble_eq_true rfl)⟩) hP hD hS hA [0, 1, 10, 4] [2, 3, 5, 6, 7, 8, 9] rfl rfl rfl (by decide) (by decide) (fun r52 u H locs hw hP hD hS => ?_)
    obtain ⟨cf2_52, rfl⟩ : ∃ z, z = u := ⟨_, rfl⟩
    have hP : va_P D vwCl ([(ro, .inr (0, [.int mod, .ref ea, .int (nI ln)])), (ea, .inl (cy 5, na, .inr (.inr (.inr (.inr fl))))), (tb, .inr (6, [.ref ro, .ref xp, wr, .int sv])), (xp, .inr (2, [.ref cd, .int (nI sz0), .ref st])), (cd, .inl (cy 0, n1, .inl fc)), (st, .inl (cy 2, 32, .inr (.inl g2_49))), (se, .inl (cy 2, 16, .inr (.inl sf))), (h0, .inr (5, [.ref tb, .ref us, .int uc, .ref se, .ref co])), (co, .inl (cy 2, 32, .inr (.inl cf2_52))), (ra, .inr (4, [.ref ab, .int (fi 1), .int (fi 2), .int (fi 3), .int (fi 4), .int (fi 5), .int (fi 6), .int (fi 7), .int (fi 8), .int (fi 9), .int (fi 10), .int (fi 11), .int (fi 12)])), (ab, .inl (cy 1, 8, .inl fa))] ++ (rpool cy (pre ++ post))) H := hP
    have hD : va_D A ([(ro, .inr (0, [.int mod, .ref ea, .int (nI ln)])), (ea, .inl (cy 5, na, .inr (.inr (.inr (.inr fl))))), (tb, .inr (6, [.ref ro, .ref xp, wr, .int sv])), (xp, .inr (2, [.ref cd, .int (nI sz0), .ref st])), (cd, .inl (cy 0, n1, .inl fc)), (st, .inl (cy 2, 32, .inr (.inl g2_49))), (se, .inl (cy 2, 16, .inr (.inl sf))), (h0, .inr (5, [.ref tb, .ref us, .int uc, .ref se, .ref co])), (co, .inl (cy 2, 32, .inr (.inl cf2_52))), (ra, .inr (4, [.ref ab, .int (fi 1), .int (fi 2), .int (fi 3), .int (fi 4), .int (fi 5), .int (fi 6), .int (fi 7), .int (fi 8), .int (fi 9), .int (fi 10), .int (fi 11), .int (fi 12)])), (ab, .inl (cy 1, 8, .inl fa))] ++ (rpool cy (pre ++ post))) := hD
    replace hw : (r52 = 0 ∨ r52 = 1) ∧ (r52 = 1 ↔ ∃ a, a < 32 ∧ nI a ∈ al9 ∧ ¬ ((vv i) &&& (c1 a ^^^ (-1))) = 0) ∧ ∀ a, a < 32 → cf2_52 a = if nI a ∈ al9 then c1 a ||| (vv i) else c1 a := hw
    refine W.widen (k := 0) (n := 0) (by omega) (by omega) ?_
    have hw52 := hw
    have hfr : r52 = 1 ↔ Fr hs vv i := fr_cov hal5 hI5 hw52.2.1
    refine lv_istore (lv' := [(4, .int r52), (3, .ref ra), (2, .int (nI i)), (1, .int (nI md)), (0, .ref h0)]) hx hb dX4_markBlock_55 hl (by decide) rfl (fun ls hl => ?_)
    refine lv_iload hx hb dX4_markBlock_57 (lv_at hl 0 rfl) ?_
    refine lv_if_eq (tgt := 77) hx hb dX4_markBlock_59 (by decide) (fun c59 => ?_) (fun c59 => ?_)
    · refine lv_iinc (v := nI (i + 1)) (lv' := [(2, .int (nI (i + 1))), (4, .int r52), (3, .ref ra), (1, .int (nI md)), (0, .ref h0)]) hx hb dX4_markBlock_77 hl (k := 2) rfl (nI_1 i) (by decide) rfl (fun ls hl => ?_)
      refine lv_goto (tgt := 12) hx hb dX4_markBlock_80 (by decide) ?_
      replace hP : va_P D vwCl ([(ro, .inr (0, [.int mod, .ref ea, .int (nI ln)])), (tb, .inr (6, [.ref ro, .ref xp, wr, .int sv])), (xp, .inr (2, [.ref cd, .int (nI sz0), .ref st])), (cd, .inl (cy 0, n1, .inl fc)), (st, .inl (cy 2, 32, .inr (.inl g2_49))), (se, .inl (cy 2, 16, .inr (.inl sf))), (h0, .inr (5, [.ref tb, .ref us, .int uc, .ref se, .ref co])), (co, .inl (cy 2, 32, .inr (.inl cf2_52))), (ea, .inl (cy 5, na, .inr (.inr (.inr (.inr fl))))), (ra, .inr (4, [.ref ab, .int (fi 1), .int (fi 2), .int (fi 3), .int (fi 4), .int (fi 5), .int (fi 6), .int (fi 7), .int (fi 8), .int (fi 9), .int (fi 10), .int (fi 11), .int (fi 12)])), (ab, .inl (cy 1, 8, .inl fa))] ++ (rpool cy (pre ++ post))) H := tl_subP hP [0, 2, 3, 4, 5, 6, 7, 8, 1, 9, 10] rfl
      replace hP : va_P D vwCl ([(ro, .inr (0, [.int mod, .ref ea, .int (nI ln)])), (tb, .inr (6, [.ref ro, .ref xp, wr, .int sv])), (xp, .inr (2, [.ref cd, .int (nI sz0), .ref st])), (cd, .inl (cy 0, n1, .inl fc)), (st, .inl (cy 2, 32, .inr (.inl g2_49))), (se, .inl (cy 2, 16, .inr (.inl sf))), (h0, .inr (5, [.ref tb, .ref us, .int uc, .ref se, .ref co])), (co, .inl (cy 2, 32, .inr (.inl cf2_52)))] ++ (ltail cy ea na fl (pre ++ (ra, ab, fi, fa) :: post))) H := tl_Pp (foc_perm (X := [(ro, .inr (0, [.int mod, .ref ea, .int (nI ln)])), (tb, .inr (6, [.ref ro, .ref xp, wr, .int sv])), (xp, .inr (2, [.ref cd, .int (nI sz0), .ref st])), (cd, .inl (cy 0, n1, .inl fc)), (st, .inl (cy 2, 32, .inr (.inl g2_49))), (se, .inl (cy 2, 16, .inr (.inl sf))), (h0, .inr (5, [.ref tb, .ref us, .int uc, .ref se, .ref co])), (co, .inl (cy 2, 32, .inr (.inl cf2_52)))]) (x := (ra, ab, fi, fa))).symm hP
      replace hD : va_D A ([(ro, .inr (0, [.int mod, .ref ea, .int (nI ln)])), (tb, .inr (6, [.ref ro, .ref xp, wr, .int sv])), (xp, .inr (2, [.ref cd, .int (nI sz0), .ref st])), (cd, .inl (cy 0, n1, .inl fc)), (st, .inl (cy 2, 32, .inr (.inl g2_49))), (se, .inl (cy 2, 16, .inr (.inl sf))), (h0, .inr (5, [.ref tb, .ref us, .int uc, .ref se, .ref co])), (co, .inl (cy 2, 32, .inr (.inl cf2_52))), (ea, .inl (cy 5, na, .inr (.inr (.inr (.inr fl))))), (ra, .inr (4, [.ref ab, .int (fi 1), .int (fi 2), .int (fi 3), .int (fi 4), .int (fi 5), .int (fi 6), .int (fi 7), .int (fi 8), .int (fi 9), .int (fi 10), .int (fi 11), .int (fi 12)])), (ab, .inl (cy 1, 8, .inl fa))] ++ (rpool cy (pre ++ post))) := tl_subD hD [0, 2, 3, 4, 5, 6, 7, 8, 1, 9, 10] (by decide) rfl
      replace hD : va_D A ([(ro, .inr (0, [.int mod, .ref ea, .int (nI ln)])), (tb, .inr (6, [.ref ro, .ref xp, wr, .int sv])), (xp, .inr (2, [.ref cd, .int (nI sz0), .ref st])), (cd, .inl (cy 0, n1, .inl fc)), (st, .inl (cy 2, 32, .inr (.inl g2_49))), (se, .inl (cy 2, 16, .inr (.inl sf))), (h0, .inr (5, [.ref tb, .ref us, .int uc, .ref se, .ref co])), (co, .inl (cy 2, 32, .inr (.inl cf2_52)))] ++ (ltail cy ea na fl (pre ++ (ra, ab, fi, fa) :: post))) := tl_Dp (foc_perm (X := [(ro, .inr (0, [.int mod, .ref ea, .int (nI ln)])), (tb, .inr (6, [.ref ro, .ref xp, wr, .int sv])), (xp, .inr (2, [.ref cd, .int (nI sz0), .ref st])), (cd, .inl (cy 0, n1, .inl fc)), (st, .inl (cy 2, 32, .inr (.inl g2_49))), (se, .inl (cy 2, 16, .inr (.inl sf))), (h0, .inr (5, [.ref tb, .ref us, .int uc, .ref se, .ref co])), (co, .inl (cy 2, 32, .inr (.inl cf2_52)))]) (x := (ra, ab, fi, fa))).symm hD
      exact ih12 ((i + 1), (pre ++ (ra, ab, fi, fa) :: post), g2_49, cf2_52, md) _ _ ls ⟨tl_subP hP [6, 7, 5, 1, 0, 2, 3, 4] rfl, tl_subD hD [6, 7, 5, 1, 0, 2, 3, 4] (by decide) rfl, hS, lv_sub hl [0, 3, 4] rfl, ⟨by omega, ls_set hI2 rfl, ls_len.trans hI3, lpI_s hI4 hpl rfl ⟨⟨⟨rfl, rfl, rfl, rfl, rfl, rfl, rfl, rfl⟩, rfl, rfl, rfl⟩, h12 i _ hxi, ⟨fun q9 => Or.inl q9, fun q9 => q9.elim id (fun q8 => absurd (c59.symm.trans (hfr.mpr q8)) (by decide))⟩⟩, cv_next hal5 hI5 hw52.2.2, by rw [cz_same rfl]; exact hI6⟩⟩ (by (try dsimp only); omega)
    · refine lv_aload_n hx hb dX4_markBlock_62 rfl (lv_at hl 1 rfl) ?_
      refine va_getN (D := D) (ci := 4) (v := .int (fi 12)) (C := RX3) (T := TX3) (N := 13) hx hb hts iX3 hown hK hP 9 rfl rfl 12 (by decide) (gl_N.f hG.gN 27 rfl) (fun _ h9 => h9) rfl dX4_markBlock_63 ?_
      refine lv_if_ne (tgt := 77) hx hb dX4_markBlock_66 (by decide) (fun c66 => ?_) (fun c66 => ?_)
      · refine lv_iinc (v := nI (i + 1)) (lv' := [(2, .int (nI (i + 1))), (4, .int r52), (3, .ref ra), (1, .int (nI md)), (0, .ref h0)]) hx hb dX4_markBlock_77 hl (k := 2) rfl (nI_1 i) (by decide) rfl (fun ls hl => ?_)
        refine lv_goto (tgt := 12) hx hb dX4_markBlock_80 (by decide) ?_
        replace hP : va_P D vwCl ([(ro, .inr (0, [.int mod, .ref ea, .int (nI ln)])), (tb, .inr (6, [.ref ro, .ref xp, wr, .int sv])), (xp, .inr (2, [.ref cd, .int (nI sz0), .ref st])), (cd, .inl (cy 0, n1, .inl fc)), (st, .inl (cy 2, 32, .inr (.inl g2_49))), (se, .inl (cy 2, 16, .inr (.inl sf))), (h0, .inr (5, [.ref tb, .ref us, .int uc, .ref se, .ref co])), (co, .inl (cy 2, 32, .inr (.inl cf2_52))), (ea, .inl (cy 5, na, .inr (.inr (.inr (.inr fl))))), (ra, .inr (4, [.ref ab, .int (fi 1), .int (fi 2), .int (fi 3), .int (fi 4), .int (fi 5), .int (fi 6), .int (fi 7), .int (fi 8), .int (fi 9), .int (fi 10), .int (fi 11), .int (fi 12)])), (ab, .inl (cy 1, 8, .inl fa))] ++ (rpool cy (pre ++ post))) H := tl_subP hP [0, 2, 3, 4, 5, 6, 7, 8, 1, 9, 10] rfl
        replace hP : va_P D vwCl ([(ro, .inr (0, [.int mod, .ref ea, .int (nI ln)])), (tb, .inr (6, [.ref ro, .ref xp, wr, .int sv])), (xp, .inr (2, [.ref cd, .int (nI sz0), .ref st])), (cd, .inl (cy 0, n1, .inl fc)), (st, .inl (cy 2, 32, .inr (.inl g2_49))), (se, .inl (cy 2, 16, .inr (.inl sf))), (h0, .inr (5, [.ref tb, .ref us, .int uc, .ref se, .ref co])), (co, .inl (cy 2, 32, .inr (.inl cf2_52)))] ++ (ltail cy ea na fl (pre ++ (ra, ab, fi, fa) :: post))) H := tl_Pp (foc_perm (X := [(ro, .inr (0, [.int mod, .ref ea, .int (nI ln)])), (tb, .inr (6, [.ref ro, .ref xp, wr, .int sv])), (xp, .inr (2, [.ref cd, .int (nI sz0), .ref st])), (cd, .inl (cy 0, n1, .inl fc)), (st, .inl (cy 2, 32, .inr (.inl g2_49))), (se, .inl (cy 2, 16, .inr (.inl sf))), (h0, .inr (5, [.ref tb, .ref us, .int uc, .ref se, .ref co])), (co, .inl (cy 2, 32, .inr (.inl cf2_52)))]) (x := (ra, ab, fi, fa))).symm hP
        replace hD : va_D A ([(ro, .inr (0, [.int mod, .ref ea, .int (nI ln)])), (tb, .inr (6, [.ref ro, .ref xp, wr, .int sv])), (xp, .inr (2, [.ref cd, .int (nI sz0), .ref st])), (cd, .inl (cy 0, n1, .inl fc)), (st, .inl (cy 2, 32, .inr (.inl g2_49))), (se, .inl (cy 2, 16, .inr (.inl sf))), (h0, .inr (5, [.ref tb, .ref us, .int uc, .ref se, .ref co])), (co, .inl (cy 2, 32, .inr (.inl cf2_52))), (ea, .inl (cy 5, na, .inr (.inr (.inr (.inr fl))))), (ra, .inr (4, [.ref ab, .int (fi 1), .int (fi 2), .int (fi 3), .int (fi 4), .int (fi 5), .int (fi 6), .int (fi 7), .int (fi 8), .int (fi 9), .int (fi 10), .int (fi 11), .int (fi 12)])), (ab, .inl (cy 1, 8, .inl fa))] ++ (rpool cy (pre ++ post))) := tl_subD hD [0, 2, 3, 4, 5, 6, 7, 8, 1, 9, 10] (by decide) rfl
        replace hD : va_D A ([(ro, .inr (0, [.int mod, .ref ea, .int (nI ln)])), (tb, .inr (6, [.ref ro, .ref xp, wr, .int sv])), (xp, .inr (2, [.ref cd, .int (nI sz0), .ref st])), (cd, .inl (cy 0, n1, .inl fc)), (st, .inl (cy 2, 32, .inr (.inl g2_49))), (se, .inl (cy 2, 16, .inr (.inl sf))), (h0, .inr (5, [.ref tb, .ref us, .int uc, .ref se, .ref co])), (co, .inl (cy 2, 32, .inr (.inl cf2_52)))] ++ (ltail cy ea na fl (pre ++ (ra, ab, fi, fa) :: post))) := tl_Dp (foc_perm (X := [(ro, .inr (0, [.int mod, .ref ea, .int (nI ln)])), (tb, .inr (6, [.ref ro, .ref xp, wr, .int sv])), (xp, .inr (2, [.ref cd, .int (nI sz0), .ref st])), (cd, .inl (cy 0, n1, .inl fc)), (st, .inl (cy 2, 32, .inr (.inl g2_49))), (se, .inl (cy 2, 16, .inr (.inl sf))), (h0, .inr (5, [.ref tb, .ref us, .int uc, .ref se, .ref co])), (co, .inl (cy 2, 32, .inr (.inl cf2_52)))]) (x := (ra, ab, fi, fa))).symm hD
        exact ih12 ((i + 1), (pre ++ (ra, ab, fi, fa) :: post), g2_49, cf2_52, md) _ _ ls ⟨tl_subP hP [6, 7, 5, 1, 0, 2, 3, 4] rfl, tl_subD hD [6, 7, 5, 1, 0, 2, 3, 4] (by decide) rfl, hS, lv_sub hl [0, 3, 4] rfl, ⟨by omega, ls_set hI2 rfl, ls_len.trans hI3, lpI_s hI4 hpl rfl ⟨⟨⟨rfl, rfl, rfl, rfl, rfl, rfl, rfl, rfl⟩, rfl, rfl, rfl⟩, h12 i _ hxi, ⟨fun q9 => Or.inl q9, fun _ => (h12 i _ hxi).resolve_left c66⟩⟩, cv_next hal5 hI5 hw52.2.2, by rw [cz_same rfl]; exact hI6⟩⟩ (by (try dsimp only); omega)
      · refine lv_aload_n hx hb dX4_markBlock_69 rfl (lv_at hl 1 rfl) ?_
        refine lv_iconst (v := 1) hx hb dX4_markBlock_70 (by decide +kernel) ?_
        refine va_putN (D := D) (ci := 4) (v := .int 1) (ty := .boolean) (C := RX3) (T := TX3) (N := 13) hx hb hts iX3 tyX3 tyX3_ok nmX3 hown hK hP hD hS 9 rfl rfl 12 (by decide) (gl_N.f hG.gN 27 rfl) (fun _ h9 => h9) rfl (by decide +kernel) rfl rfl (Nat.le_of_ble_eq_true rfl) dX4_markBlock_71 (fun H locs hP hD hS => ?_)
        have hP : va_P D vwCl ([(ro, .inr (0, [.int mod, .ref ea, .int (nI ln)])), (ea, .inl (cy 5, na, .inr (.inr (.inr (.inr fl))))), (tb, .inr (6, [.ref ro, .ref xp, wr, .int sv])), (xp, .inr (2, [.ref cd, .int (nI sz0), .ref st])), (cd, .inl (cy 0, n1, .inl fc)), (st, .inl (cy 2, 32, .inr (.inl g2_49))), (se, .inl (cy 2, 16, .inr (.inl sf))), (h0, .inr (5, [.ref tb, .ref us, .int uc, .ref se, .ref co])), (co, .inl (cy 2, 32, .inr (.inl cf2_52))), (ra, .inr (4, [.ref ab, .int (fi 1), .int (fi 2), .int (fi 3), .int (fi 4), .int (fi 5), .int (fi 6), .int (fi 7), .int (fi 8), .int (fi 9), .int (fi 10), .int (fi 11), .int 1])), (ab, .inl (cy 1, 8, .inl fa))] ++ (rpool cy (pre ++ post))) H := hP
        have hD : va_D A ([(ro, .inr (0, [.int mod, .ref ea, .int (nI ln)])), (ea, .inl (cy 5, na, .inr (.inr (.inr (.inr fl))))), (tb, .inr (6, [.ref ro, .ref xp, wr, .int sv])), (xp, .inr (2, [.ref cd, .int (nI sz0), .ref st])), (cd, .inl (cy 0, n1, .inl fc)), (st, .inl (cy 2, 32, .inr (.inl g2_49))), (se, .inl (cy 2, 16, .inr (.inl sf))), (h0, .inr (5, [.ref tb, .ref us, .int uc, .ref se, .ref co])), (co, .inl (cy 2, 32, .inr (.inl cf2_52))), (ra, .inr (4, [.ref ab, .int (fi 1), .int (fi 2), .int (fi 3), .int (fi 4), .int (fi 5), .int (fi 6), .int (fi 7), .int (fi 8), .int (fi 9), .int (fi 10), .int (fi 11), .int 1])), (ab, .inl (cy 1, 8, .inl fa))] ++ (rpool cy (pre ++ post))) := hD
        refine lv_iinc (v := nI (md + 1)) (lv' := [(1, .int (nI (md + 1))), (4, .int r52), (3, .ref ra), (2, .int (nI i)), (0, .ref h0)]) hx hb dX4_markBlock_74 hl (k := 3) rfl (nI_1 md) (by decide) rfl (fun ls hl => ?_)
        refine lv_iinc (v := nI (i + 1)) (lv' := [(2, .int (nI (i + 1))), (1, .int (nI (md + 1))), (4, .int r52), (3, .ref ra), (0, .ref h0)]) hx hb dX4_markBlock_77 hl (k := 3) rfl (nI_1 i) (by decide) rfl (fun ls hl => ?_)
        refine lv_goto (tgt := 12) hx hb dX4_markBlock_80 (by decide) ?_
        replace hP : va_P D vwCl ([(ro, .inr (0, [.int mod, .ref ea, .int (nI ln)])), (tb, .inr (6, [.ref ro, .ref xp, wr, .int sv])), (xp, .inr (2, [.ref cd, .int (nI sz0), .ref st])), (cd, .inl (cy 0, n1, .inl fc)), (st, .inl (cy 2, 32, .inr (.inl g2_49))), (se, .inl (cy 2, 16, .inr (.inl sf))), (h0, .inr (5, [.ref tb, .ref us, .int uc, .ref se, .ref co])), (co, .inl (cy 2, 32, .inr (.inl cf2_52))), (ea, .inl (cy 5, na, .inr (.inr (.inr (.inr fl))))), (ra, .inr (4, [.ref ab, .int (fi 1), .int (fi 2), .int (fi 3), .int (fi 4), .int (fi 5), .int (fi 6), .int (fi 7), .int (fi 8), .int (fi 9), .int (fi 10), .int (fi 11), .int 1])), (ab, .inl (cy 1, 8, .inl fa))] ++ (rpool cy (pre ++ post))) H := tl_subP hP [0, 2, 3, 4, 5, 6, 7, 8, 1, 9, 10] rfl
        replace hP : va_P D vwCl ([(ro, .inr (0, [.int mod, .ref ea, .int (nI ln)])), (tb, .inr (6, [.ref ro, .ref xp, wr, .int sv])), (xp, .inr (2, [.ref cd, .int (nI sz0), .ref st])), (cd, .inl (cy 0, n1, .inl fc)), (st, .inl (cy 2, 32, .inr (.inl g2_49))), (se, .inl (cy 2, 16, .inr (.inl sf))), (h0, .inr (5, [.ref tb, .ref us, .int uc, .ref se, .ref co])), (co, .inl (cy 2, 32, .inr (.inl cf2_52)))] ++ (ltail cy ea na fl (pre ++ (ra, ab, (fun k => [0, fi 1, fi 2, fi 3, fi 4, fi 5, fi 6, fi 7, fi 8, fi 9, fi 10, fi 11, 1].getD k 0), fa) :: post))) H := tl_Pp (foc_perm (X := [(ro, .inr (0, [.int mod, .ref ea, .int (nI ln)])), (tb, .inr (6, [.ref ro, .ref xp, wr, .int sv])), (xp, .inr (2, [.ref cd, .int (nI sz0), .ref st])), (cd, .inl (cy 0, n1, .inl fc)), (st, .inl (cy 2, 32, .inr (.inl g2_49))), (se, .inl (cy 2, 16, .inr (.inl sf))), (h0, .inr (5, [.ref tb, .ref us, .int uc, .ref se, .ref co])), (co, .inl (cy 2, 32, .inr (.inl cf2_52)))]) (x := (ra, ab, (fun k => [0, fi 1, fi 2, fi 3, fi 4, fi 5, fi 6, fi 7, fi 8, fi 9, fi 10, fi 11, 1].getD k 0), fa))).symm hP
        replace hD : va_D A ([(ro, .inr (0, [.int mod, .ref ea, .int (nI ln)])), (tb, .inr (6, [.ref ro, .ref xp, wr, .int sv])), (xp, .inr (2, [.ref cd, .int (nI sz0), .ref st])), (cd, .inl (cy 0, n1, .inl fc)), (st, .inl (cy 2, 32, .inr (.inl g2_49))), (se, .inl (cy 2, 16, .inr (.inl sf))), (h0, .inr (5, [.ref tb, .ref us, .int uc, .ref se, .ref co])), (co, .inl (cy 2, 32, .inr (.inl cf2_52))), (ea, .inl (cy 5, na, .inr (.inr (.inr (.inr fl))))), (ra, .inr (4, [.ref ab, .int (fi 1), .int (fi 2), .int (fi 3), .int (fi 4), .int (fi 5), .int (fi 6), .int (fi 7), .int (fi 8), .int (fi 9), .int (fi 10), .int (fi 11), .int 1])), (ab, .inl (cy 1, 8, .inl fa))] ++ (rpool cy (pre ++ post))) := tl_subD hD [0, 2, 3, 4, 5, 6, 7, 8, 1, 9, 10] (by decide) rfl
        replace hD : va_D A ([(ro, .inr (0, [.int mod, .ref ea, .int (nI ln)])), (tb, .inr (6, [.ref ro, .ref xp, wr, .int sv])), (xp, .inr (2, [.ref cd, .int (nI sz0), .ref st])), (cd, .inl (cy 0, n1, .inl fc)), (st, .inl (cy 2, 32, .inr (.inl g2_49))), (se, .inl (cy 2, 16, .inr (.inl sf))), (h0, .inr (5, [.ref tb, .ref us, .int uc, .ref se, .ref co])), (co, .inl (cy 2, 32, .inr (.inl cf2_52)))] ++ (ltail cy ea na fl (pre ++ (ra, ab, (fun k => [0, fi 1, fi 2, fi 3, fi 4, fi 5, fi 6, fi 7, fi 8, fi 9, fi 10, fi 11, 1].getD k 0), fa) :: post))) := tl_Dp (foc_perm (X := [(ro, .inr (0, [.int mod, .ref ea, .int (nI ln)])), (tb, .inr (6, [.ref ro, .ref xp, wr, .int sv])), (xp, .inr (2, [.ref cd, .int (nI sz0), .ref st])), (cd, .inl (cy 0, n1, .inl fc)), (st, .inl (cy 2, 32, .inr (.inl g2_49))), (se, .inl (cy 2, 16, .inr (.inl sf))), (h0, .inr (5, [.ref tb, .ref us, .int uc, .ref se, .ref co])), (co, .inl (cy 2, 32, .inr (.inl cf2_52)))]) (x := (ra, ab, (fun k => [0, fi 1, fi 2, fi 3, fi 4, fi 5, fi 6, fi 7, fi 8, fi 9, fi 10, fi 11, 1].getD k 0), fa))).symm hD
        exact ih12 ((i + 1), (pre ++ (ra, ab, (fun k => [0, fi 1, fi 2, fi 3, fi 4, fi 5, fi 6, fi 7, fi 8, fi 9, fi 10, fi 11, 1].getD k 0), fa) :: post), g2_49, cf2_52, (md + 1)) _ _ ls ⟨tl_subP hP [6, 7, 5, 1, 0, 2, 3, 4] rfl, tl_subD hD [6, 7, 5, 1, 0, 2, 3, 4] (by decide) rfl, hS, lv_sub hl [0, 1, 4] rfl, ⟨by omega, ls_set hI2 rfl, ls_len.trans hI3, lpI_s hI4 hpl rfl ⟨⟨⟨rfl, rfl, rfl, rfl, rfl, rfl, rfl, rfl⟩, rfl, rfl, rfl⟩, Or.inr rfl, ⟨fun _ => Or.inr (hfr.mp (hw52.1.resolve_left c59)), fun _ => rfl⟩⟩, cv_next hal5 hI5 hw52.2.2, cz_up hI6 c66 rfl⟩⟩ (by (try dsimp only); omega)

set_option maxHeartbeats 4000000 in
set_option maxRecDepth 100000 in
theorem c_markRows (l : Launch) (D : va_G) (cy : Nat → ClassId) (e : Nat → Nat)  (h0 : Nat) (tb : Nat) (us : Nat) (se : Nat) (co : Nat) (ro : Nat) (xp : Nat) (wr : Value) (sv : Int32) (cd : Nat) (sz0 : Nat) (st : Nat) (n1 : Nat) (fc : Nat → Int32) (g : Nat → Int64) (mod : Int32) (ea : Nat) (ln : Nat) (na : Nat) (fl : Nat → Option Nat) (rs : List rwT) (uc : Nat) (uf : Nat → Int32) (cf : Nat → Int64) (sf : Nat → Int64) (hs : Nat → Nat → Bool) (vvs : (Nat → Int64) → Nat → Int64) (sz : Nat) (hsz : sz0 ≤ n1) (hn1 : n1 < 65536) (hls : lsok e ea na fl rs) (hna : na ≤ 60) (hln : rs.length = ln) (hev : ∀ σ, cev rs fc sz0 σ (vvs σ)) (hac : ∀ (k : Nat) (x : rwT), rs[k]? = some x → ractP hs k x) (hz0 : ∀ (k : Nat) (x : rwT), rs[k]? = some x → x.2.2.1 12 = 0) (huc : uc = 0) : Met l yX4_markRows wsX4_markRows ({ frames := 4, cells := 0, slots := 0, locals := 96 }) (va_Pc [.ref h0] (mt_B D cy e ([(h0, .inr (5, [.ref tb, .ref us, .int (nI uc), .ref se, .ref co])), (us, .inl (cy 1, 16, .inl uf)), (co, .inl (cy 2, 32, .inr (.inl cf))), (se, .inl (cy 2, 16, .inr (.inl sf))), (tb, .inr (6, [.ref ro, .ref xp, wr, .int sv])), (ro, .inr (0, [.int mod, .ref ea, .int (nI ln)])), (xp, .inr (2, [.ref cd, .int (nI sz0), .ref st])), (cd, .inl (cy 0, n1, .inl fc)), (st, .inl (cy 2, 32, .inr (.inl g)))] ++ (ltail cy ea na fl rs)) sz)) (va_Qv (fun (u : Nat × (Nat → Int32) × List rwT × (Nat → Int64) × (Nat → Int64) × (Nat → Int64)) => match u with | (uc2, uf2, rs2, g2, cf2, sf2) => ((lsok e ea na fl rs2 ∧ rs2.length = ln) ∧ usdP fc sz0 uc2 uf2 ∧ rup rs rs2 (mrP hs vvs uc2 uf2 (2 ^ (uc2 - 6))))) (mt_Q D (fun (u : Nat × (Nat → Int32) × List rwT × (Nat → Int64) × (Nat → Int64) × (Nat → Int64)) => match u with | (uc2, uf2, rs2, g2, cf2, sf2) => ([(h0, .inr (5, [.ref tb, .ref us, .int (nI uc2), .ref se, .ref co])), (us, .inl (cy 1, 16, .inl uf2)), (co, .inl (cy 2, 32, .inr (.inl cf2))), (se, .inl (cy 2, 16, .inr (.inl sf2))), (tb, .inr (6, [.ref ro, .ref xp, wr, .int sv])), (ro, .inr (0, [.int mod, .ref ea, .int (nI ln)])), (xp, .inr (2, [.ref cd, .int (nI sz0), .ref st])), (cd, .inl (cy 0, n1, .inl fc)), (st, .inl (cy 2, 32, .inr (.inl g2)))] ++ (ltail cy ea na fl rs2))) (va_A ([(h0, .inr (5, [.ref tb, .ref us, .int (nI uc), .ref se, .ref co])), (us, .inl (cy 1, 16, .inl uf)), (co, .inl (cy 2, 32, .inr (.inl cf))), (se, .inl (cy 2, 16, .inr (.inl sf))), (tb, .inr (6, [.ref ro, .ref xp, wr, .int sv])), (ro, .inr (0, [.int mod, .ref ea, .int (nI ln)])), (xp, .inr (2, [.ref cd, .int (nI sz0), .ref st])), (cd, .inl (cy 0, n1, .inl fc)), (st, .inl (cy 2, 32, .inr (.inl g)))] ++ (ltail cy ea na fl rs)) sz)) (va_A ([(h0, .inr (5, [.ref tb, .ref us, .int (nI uc), .ref se, .ref co])), (us, .inl (cy 1, 16, .inl uf)), (co, .inl (cy 2, 32, .inr (.inl cf))), (se, .inl (cy 2, 16, .inr (.inl sf))), (tb, .inr (6, [.ref ro, .ref xp, wr, .int sv])), (ro, .inr (0, [.int mod, .ref ea, .int (nI ln)])), (xp, .inr (2, [.ref cd, .int (nI sz0), .ref st])), (cd, .inl (cy 0, n1, .inl fc)), (st, .inl (cy 2, 32, .inr (.inl g)))] ++ (ltail cy ea na fl rs)) sz)) (0) (0) (va_A ([(h0, .inr (5, [.ref tb, .ref us, .int (nI uc), .ref se, .ref co])), (us, .inl (cy 1, 16, .inl uf)), (co, .inl (cy 2, 32, .inr (.inl cf))), (se, .inl (cy 2, 16, .inr (.inl sf))), (tb, .inr (6, [.ref ro, .ref xp, wr, .int sv])), (ro, .inr (0, [.int mod, .ref ea, .int (nI ln)])), (xp, .inr (2, [.ref cd, .int (nI sz0), .ref st])), (cd, .inl (cy 0, n1, .inl fc)), (st, .inl (cy 2, 32, .inr (.inl g)))] ++ (ltail cy ea na fl rs)) sz) := by
  refine Met.ofW (cc := cX4_markRows) (maxL := 4) (ret := none) (by decide) rfl ?_
  intro p ev s m args below meth c s₁ B hml hv
  obtain ⟨rfl, hsz, hP, hK, hD0, hG⟩ := hv
  have hx := B.exec
  have hb := B.bytes
  have hr := B.returns
  have hts := atoms_spec (ws := wsX4_markRows) B.pre
  have hown : s.vm.findClass RX4 = some m.cls := findClass_of_methodNamed B.named
  have hlocks := B.notSynchronized
  subst hsz
  have hD := hD0.self (sz := s.heap.size)
  generalize hAe : va_A ([(h0, .inr (5, [.ref tb, .ref us, .int (nI uc), .ref se, .ref co])), (us, .inl (cy 1, 16, .inl uf)), (co, .inl (cy 2, 32, .inr (.inl cf))), (se, .inl (cy 2, 16, .inr (.inl sf))), (tb, .inr (6, [.ref ro, .ref xp, wr, .int sv])), (ro, .inr (0, [.int mod, .ref ea, .int (nI ln)])), (xp, .inr (2, [.ref cd, .int (nI sz0), .ref st])), (cd, .inl (cy 0, n1, .inl fc)), (st, .inl (cy 2, 32, .inr (.inl g)))] ++ (ltail cy ea na fl rs)) s.heap.size = A at hD hG ⊢
  have hA : ∀ q : Nat, s.heap.size ≤ q → A q := fun q h => by rw [← hAe]; exact Or.inr h
  have hS : va_S A s.heap s.heap [] := va_S.rf
  have hP : va_P D vwCl ([(h0, .inr (5, [.ref tb, .ref us, .int (nI uc), .ref se, .ref co])), (us, .inl (cy 1, 16, .inl uf)), (co, .inl (cy 2, 32, .inr (.inl cf))), (se, .inl (cy 2, 16, .inr (.inl sf))), (tb, .inr (6, [.ref ro, .ref xp, wr, .int sv])), (ro, .inr (0, [.int mod, .ref ea, .int (nI ln)])), (xp, .inr (2, [.ref cd, .int (nI sz0), .ref st])), (cd, .inl (cy 0, n1, .inl fc)), (st, .inl (cy 2, 32, .inr (.inl g)))] ++ (ltail cy ea na fl rs)) s.heap := hP
  have iX4 : ∀ w ∈ wsX40, w ∈ wsX4_markRows := fun w h => List.mem_cons_of_mem _ (List.mem_append_left _ (List.mem_append_left _ (List.mem_append_left _ (List.mem_append_left _ (List.mem_append_right _ h)))))
  have iX5 : ∀ w ∈ wsX50, w ∈ wsX4_markRows := fun w h => List.mem_cons_of_mem _ (List.mem_append_left _ (List.mem_append_left _ (List.mem_append_left _ (List.mem_append_right _ h))))
  have iX1 : ∀ w ∈ wsX10, w ∈ wsX4_markRows := fun w h => List.mem_cons_of_mem _ (List.mem_append_left _ (List.mem_append_left _ (List.mem_append_right _ h)))
  have iJx4a65c : ∀ w ∈ wsJx4a65c0, w ∈ wsX4_markRows := fun w h => List.mem_cons_of_mem _ (List.mem_append_left _ (List.mem_append_right _ h))
  have iX3 : ∀ w ∈ wsX30, w ∈ wsX4_markRows := fun w h => List.mem_cons_of_mem _ (List.mem_append_right _ h)
  have hl := lv_entry ([.ref h0]) (n := 4) (Nat.le_of_ble_eq_true rfl)
  rw [lg_entry_eq]
  generalize (lg_sl ([.ref h0]) ++ List.replicate (4 - (lg_sl ([.ref h0])).length) Slot.unset).toArray = ls at hl ⊢
  have hl : lv_has ls 4 [(0, .ref h0)] := hl
  refine lv_aload_n hx hb dX4_markRows_0 rfl (lv_at hl 0 rfl) ?_
  refine mt_callvQ (wr := [(co, .inl (cy 2, 32, .inr (.inl cf))), (se, .inl (cy 2, 16, .inr (.inl sf))), (ro, .inr (0, [.int mod, .ref ea, .int (nI ln)])), (st, .inl (cy 2, 32, .inr (.inl g)))]) (va_runV (As := []) (rest := []) ⟨hx, hb, hml, hown, hts⟩ (c_findUsed l D cy e h0 tb us se co uc uf ro xp wr sv cd sz0 st n1 fc s.heap.size hsz hn1 huc) (cwV 0 hts gX4_markRows_X4_findUsed rfl rfl rfl (by decide +kernel) ⟨Nat.le_of_ble_eq_true rfl, Nat.le_of_ble_eq_true rfl⟩) (mt_preV hP hD hK hS hA hG [0, 1, 4, 6, 7] rfl (by decide) (q := (RX4, TX4, 5)) (ci := 5) (q0 := 0) rfl rfl) rfl rfl hl.1 rfl (lv_room (Nat.le_of_ble_eq_true rfl)) dX4_markRows_1 ⟨(Nat.le_of_ble_eq_true rfl), (Nat.le_of_ble_eq_true rfl)⟩) hP hD hS hA [0, 1, 4, 6, 7] [2, 3, 5, 8] rfl rfl rfl (by decide) (by decide) (fun u H locs hw hP hD hS => ?_)
  obtain ⟨uc2_1, uf2_1⟩ := u
  have hP : va_P D vwCl ([(co, .inl (cy 2, 32, .inr (.inl cf))), (se, .inl (cy 2, 16, .inr (.inl sf))), (ro, .inr (0, [.int mod, .ref ea, .int (nI ln)])), (st, .inl (cy 2, 32, .inr (.inl g))), (h0, .inr (5, [.ref tb, .ref us, .int (nI uc2_1), .ref se, .ref co])), (us, .inl (cy 1, 16, .inl uf2_1)), (tb, .inr (6, [.ref ro, .ref xp, wr, .int sv])), (xp, .inr (2, [.ref cd, .int (nI sz0), .ref st])), (cd, .inl (cy 0, n1, .inl fc))] ++ (ltail cy ea na fl rs)) H := hP
  have hD : va_D A ([(co, .inl (cy 2, 32, .inr (.inl cf))), (se, .inl (cy 2, 16, .inr (.inl sf))), (ro, .inr (0, [.int mod, .ref ea, .int (nI ln)])), (st, .inl (cy 2, 32, .inr (.inl g))), (h0, .inr (5, [.ref tb, .ref us, .int (nI uc2_1), .ref se, .ref co])), (us, .inl (cy 1, 16, .inl uf2_1)), (tb, .inr (6, [.ref ro, .ref xp, wr, .int sv])), (xp, .inr (2, [.ref cd, .int (nI sz0), .ref st])), (cd, .inl (cy 0, n1, .inl fc))] ++ (ltail cy ea na fl rs)) := hD
  replace hw : usdP fc sz0 uc2_1 uf2_1 := hw
  refine W.widen (k := 0) (n := 0) (by omega) (by omega) ?_
  have hu1 := hw
  refine lv_iconst (v := 1) hx hb dX4_markRows_4 (by decide +kernel) ?_
  refine lv_iconst (v := 0) hx hb dX4_markRows_5 (by decide +kernel) ?_
  refine lv_aload_n hx hb dX4_markRows_6 rfl (lv_at hl 0 rfl) ?_
  refine va_get (D := D) (ci := 5) (v := .int (nI uc2_1)) (C := RX4) (T := TX4) (N := 5) hx hb hts iX4 hown hK hP 4 rfl rfl 2 (by decide) (hts (.fieldLink RX4 29 "InterlockTables$Survey" "usedCount" "I") (by decide +kernel)) (fun _ h9 => h9) rfl dX4_markRows_7 ?_
  refine va_getsN (v := .ref (e 1)) hx hb hG.z1 hS hown (gl_N.f hG.gN 29 rfl) (fun _ h9 => h9) dX4_markRows_10 ?_
  refine va_tlen hx hb hG.t1 hS (v := 6) rfl dX4_markRows_13 ?_
  refine lv_isub hx hb dX4_markRows_14 ?_
  refine va_mmax hx hb (by rw [hml]; exact hl.1.symm) hown (hts (.methodLink RX4 36 Lib.Math.max.name) (by decide +kernel)) (hts (.static Lib.Math.max.name) (by decide +kernel)) (hts (.initialized "java/lang/Math") (by decide +kernel)) (hts (.code Lib.Math.max.name Lib.Math.max.code 2 (some .int)) (by decide +kernel)) (Nat.le_of_ble_eq_true rfl) (Nat.le_of_ble_eq_true rfl) (Nat.le_of_ble_eq_true rfl) (Nat.le_of_ble_eq_true rfl) dX4_markRows_15 ?_
  refine lv_topi (fun x_1 ex_1 => ?_)
  obtain rfl : x_1 = nI (uc2_1 - 6) := by rw [ex_1]; exact mx6 uc2_1 (by have o9 := hu1.1; omega)
  refine lv_ishl hx hb dX4_markRows_18 ?_
  refine lv_topi (fun x_2 ex_2 => ?_)
  obtain rfl : x_2 = nI (2 ^ (uc2_1 - 6)) := by rw [ex_2]; exact sh6 uc2_1 (by have o9 := hu1.1; omega)
  refine lv_istore_n (lv' := [(1, .int (nI (2 ^ (uc2_1 - 6)))), (0, .ref h0)]) hx hb dX4_markRows_19 rfl hl (by decide) rfl (fun ls hl => ?_)
  refine lv_aload_n hx hb dX4_markRows_20 rfl (lv_at hl 1 rfl) ?_
  refine va_get (D := D) (ci := 5) (v := .ref tb) (C := RX4) (T := TX4) (N := 5) hx hb hts iX4 hown hK hP 4 rfl rfl 0 (by decide) (hts (.fieldLink RX4 22 "InterlockTables$Survey" "table" "LInterlockTables$Table;") (by decide +kernel)) (fun _ h9 => h9) rfl dX4_markRows_21 ?_
  refine pu_calli (va_runV (As := []) (rest := []) ⟨hx, hb, hml, hown, hts⟩ (c_Table_size l D cy e tb ro xp wr sv mod (.ref ea) (nI ln) ) (cwV 0 hts gX4_markRows_X5_size rfl rfl rfl (by decide +kernel) ⟨Nat.le_of_ble_eq_true rfl, Nat.le_of_ble_eq_true rfl⟩) (pu_preV hP hK hS hG [6, 2] rfl (q := (RX5, TX5, 4)) (ci := 6) (q0 := 6) rfl rfl) rfl rfl hl.1 rfl (lv_room (Nat.le_of_ble_eq_true rfl)) dX4_markRows_24 ⟨(Nat.le_of_ble_eq_true rfl), (Nat.le_of_ble_eq_true rfl)⟩) hP hS (fun H locs hP hS => ?_)
  have hP : va_P D vwCl ([(co, .inl (cy 2, 32, .inr (.inl cf))), (se, .inl (cy 2, 16, .inr (.inl sf))), (ro, .inr (0, [.int mod, .ref ea, .int (nI ln)])), (st, .inl (cy 2, 32, .inr (.inl g))), (h0, .inr (5, [.ref tb, .ref us, .int (nI uc2_1), .ref se, .ref co])), (us, .inl (cy 1, 16, .inl uf2_1)), (tb, .inr (6, [.ref ro, .ref xp, wr, .int sv])), (xp, .inr (2, [.ref cd, .int (nI sz0), .ref st])), (cd, .inl (cy 0, n1, .inl fc))] ++ (ltail cy ea na fl rs)) H := hP
  refine lv_istore_n (lv' := [(2, .int (nI ln)), (1, .int (nI (2 ^ (uc2_1 - 6)))), (0, .ref h0)]) hx hb dX4_markRows_27 rfl hl (by decide) rfl (fun ls hl => ?_)
  refine lv_iconst (v := 0) hx hb dX4_markRows_28 (by decide +kernel) ?_
  refine lv_topi (fun x_3 ex_3 => ?_)
  obtain rfl : x_3 = nI 0 := by rw [ex_3]; exact nI_0.symm
  refine lv_istore_n (lv' := [(3, .int (nI 0)), (2, .int (nI ln)), (1, .int (nI (2 ^ (uc2_1 - 6)))), (0, .ref h0)]) hx hb dX4_markRows_29 rfl hl (by decide) rfl (fun ls hl => ?_)
  refine lp_W (σ := Nat × Nat × List rwT × (Nat → Int64) × (Nat → Int64) × (Nat → Int64)) (Wf := fun H locs ls => W p l ev _ s m _ below meth c H locs (0) (0) _ (F0 m 30 ls [])) (fun zz9 H locs ls => match zz9 with | (bk, mz, rs1, g1, c1, s1) => va_P D vwCl ([(h0, .inr (5, [.ref tb, .ref us, .int (nI uc2_1), .ref se, .ref co])), (us, .inl (cy 1, 16, .inl uf2_1)), (co, .inl (cy 2, 32, .inr (.inl c1))), (se, .inl (cy 2, 16, .inr (.inl s1))), (tb, .inr (6, [.ref ro, .ref xp, wr, .int sv])), (ro, .inr (0, [.int mod, .ref ea, .int (nI ln)])), (xp, .inr (2, [.ref cd, .int (nI sz0), .ref st])), (cd, .inl (cy 0, n1, .inl fc)), (st, .inl (cy 2, 32, .inr (.inl g1)))] ++ (ltail cy ea na fl rs1)) H ∧ va_D A ([(h0, .inr (5, [.ref tb, .ref us, .int (nI uc2_1), .ref se, .ref co])), (us, .inl (cy 1, 16, .inl uf2_1)), (co, .inl (cy 2, 32, .inr (.inl c1))), (se, .inl (cy 2, 16, .inr (.inl s1))), (tb, .inr (6, [.ref ro, .ref xp, wr, .int sv])), (ro, .inr (0, [.int mod, .ref ea, .int (nI ln)])), (xp, .inr (2, [.ref cd, .int (nI sz0), .ref st])), (cd, .inl (cy 0, n1, .inl fc)), (st, .inl (cy 2, 32, .inr (.inl g1)))] ++ (ltail cy ea na fl rs1)) ∧ va_S A s.heap H locs ∧ lv_has ls 4 [(3, .int (nI bk)), (2, .int (nI mz)), (1, .int (nI (2 ^ (uc2_1 - 6)))), (0, .ref h0)] ∧ ((lsok e ea na fl rs1 ∧ rs1.length = ln) ∧ rup rs rs1 (mrP hs vvs uc2_1 uf2_1 bk) ∧ mz = cz rs1 ∧ bk ≤ 2 ^ (uc2_1 - 6))) (fun zz9 => match zz9 with | (bk, mz, rs1, g1, c1, s1) => 2 ^ (uc2_1 - 6) - bk) ?_ (0, ln, rs, g, cf, sf) _ _ ls ⟨tl_subP hP [4, 5, 0, 1, 6, 2, 7, 8, 3] rfl, tl_subD hD [4, 5, 0, 1, 6, 2, 7, 8, 3] (by decide) rfl, hS, lv_sub hl [0, 1, 2, 3] rfl, ⟨⟨hls, hln⟩, mr_0 hz0, by rw [cz_all hz0]; exact hln.symm, Nat.zero_le _⟩⟩
  intro zz9 H locs ls hI ih
  obtain ⟨bk, mz, rs1, g1, c1, s1⟩ := zz9
  obtain ⟨hP, hD, hS, hl, hI⟩ := hI
  have ih30 := ih
  have hI30 := hI
  have hP : va_P D vwCl ([(h0, .inr (5, [.ref tb, .ref us, .int (nI uc2_1), .ref se, .ref co])), (us, .inl (cy 1, 16, .inl uf2_1)), (co, .inl (cy 2, 32, .inr (.inl c1))), (se, .inl (cy 2, 16, .inr (.inl s1))), (tb, .inr (6, [.ref ro, .ref xp, wr, .int sv])), (ro, .inr (0, [.int mod, .ref ea, .int (nI ln)])), (xp, .inr (2, [.ref cd, .int (nI sz0), .ref st])), (cd, .inl (cy 0, n1, .inl fc)), (st, .inl (cy 2, 32, .inr (.inl g1)))] ++ (ltail cy ea na fl rs1)) H := hP
  have hD : va_D A ([(h0, .inr (5, [.ref tb, .ref us, .int (nI uc2_1), .ref se, .ref co])), (us, .inl (cy 1, 16, .inl uf2_1)), (co, .inl (cy 2, 32, .inr (.inl c1))), (se, .inl (cy 2, 16, .inr (.inl s1))), (tb, .inr (6, [.ref ro, .ref xp, wr, .int sv])), (ro, .inr (0, [.int mod, .ref ea, .int (nI ln)])), (xp, .inr (2, [.ref cd, .int (nI sz0), .ref st])), (cd, .inl (cy 0, n1, .inl fc)), (st, .inl (cy 2, 32, .inr (.inl g1)))] ++ (ltail cy ea na fl rs1)) := hD
  have hl : lv_has ls 4 [(3, .int (nI bk)), (2, .int (nI mz)), (1, .int (nI (2 ^ (uc2_1 - 6)))), (0, .ref h0)] := hl
  obtain ⟨⟨hI2, hI3⟩, hI4, hI5, hI6⟩ := hI
  have hp6 := p6_le hu1.1
  have hcz := cz_le (rs := rs1)
  have hnl : rs1.length ≤ 60 := Nat.le_trans hI2.2.2.1 hna
  refine lv_iload_n hx hb dX4_markRows_30 rfl (lv_at hl 0 rfl) ?_
  refine lv_iload_n hx hb dX4_markRows_31 rfl (lv_at hl 2 rfl) ?_
  refine lv_icmp_ge (tgt := 57) hx hb dX4_markRows_32 (by decide) (fun c32 => ?_) (fun c32 => ?_)
  · have hbg : 2 ^ (uc2_1 - 6) ≤ bk := (nI_leI (by omega) (by omega)).mp c32
    have hP9 : va_P D vwCl ([(h0, .inr (5, [.ref tb, .ref us, .int (nI uc2_1), .ref se, .ref co])), (us, .inl (cy 1, 16, .inl uf2_1)), (co, .inl (cy 2, 32, .inr (.inl c1))), (se, .inl (cy 2, 16, .inr (.inl s1))), (tb, .inr (6, [.ref ro, .ref xp, wr, .int sv])), (ro, .inr (0, [.int mod, .ref ea, .int (nI ln)])), (xp, .inr (2, [.ref cd, .int (nI sz0), .ref st])), (cd, .inl (cy 0, n1, .inl fc)), (st, .inl (cy 2, 32, .inr (.inl g1)))] ++ (ltail cy ea na fl rs1)) H := tl_subP hP [0, 1, 2, 3, 4, 5, 6, 7, 8] rfl
    have hD9 : va_D A ([(h0, .inr (5, [.ref tb, .ref us, .int (nI uc2_1), .ref se, .ref co])), (us, .inl (cy 1, 16, .inl uf2_1)), (co, .inl (cy 2, 32, .inr (.inl c1))), (se, .inl (cy 2, 16, .inr (.inl s1))), (tb, .inr (6, [.ref ro, .ref xp, wr, .int sv])), (ro, .inr (0, [.int mod, .ref ea, .int (nI ln)])), (xp, .inr (2, [.ref cd, .int (nI sz0), .ref st])), (cd, .inl (cy 0, n1, .inl fc)), (st, .inl (cy 2, 32, .inr (.inl g1)))] ++ (ltail cy ea na fl rs1)) := tl_subD hD [0, 1, 2, 3, 4, 5, 6, 7, 8] (by decide) rfl
    refine W.widen (k := 0) (n := 0) (by omega) (by omega) ?_
    exact W.vret hx hb hr (fun t ht hW => ⟨⟨(uc2_1, uf2_1, rs1, g1, c1, s1), rfl, ⟨⟨hI2, hI3⟩, hu1, mr_all hI4 (Or.inl hbg)⟩, by rw [ht]; exact hP9, hD9⟩, hS.F ht⟩) hS.2.2 dX4_markRows_57
  · have hbk : bk < 2 ^ (uc2_1 - 6) := pk_nle (by omega) c32
    refine lv_iload_n hx hb dX4_markRows_35 rfl (lv_at hl 1 rfl) ?_
    refine lv_if_le (tgt := 57) hx hb dX4_markRows_36 (by decide) (fun c36 => ?_) (fun c36 => ?_)
    · have hmz : mz = 0 := by have o9 := (nI_leI (a := mz) (b := 0) (by omega) (by decide)).mp c36; omega
      have hP9 : va_P D vwCl ([(h0, .inr (5, [.ref tb, .ref us, .int (nI uc2_1), .ref se, .ref co])), (us, .inl (cy 1, 16, .inl uf2_1)), (co, .inl (cy 2, 32, .inr (.inl c1))), (se, .inl (cy 2, 16, .inr (.inl s1))), (tb, .inr (6, [.ref ro, .ref xp, wr, .int sv])), (ro, .inr (0, [.int mod, .ref ea, .int (nI ln)])), (xp, .inr (2, [.ref cd, .int (nI sz0), .ref st])), (cd, .inl (cy 0, n1, .inl fc)), (st, .inl (cy 2, 32, .inr (.inl g1)))] ++ (ltail cy ea na fl rs1)) H := tl_subP hP [0, 1, 2, 3, 4, 5, 6, 7, 8] rfl
      have hD9 : va_D A ([(h0, .inr (5, [.ref tb, .ref us, .int (nI uc2_1), .ref se, .ref co])), (us, .inl (cy 1, 16, .inl uf2_1)), (co, .inl (cy 2, 32, .inr (.inl c1))), (se, .inl (cy 2, 16, .inr (.inl s1))), (tb, .inr (6, [.ref ro, .ref xp, wr, .int sv])), (ro, .inr (0, [.int mod, .ref ea, .int (nI ln)])), (xp, .inr (2, [.ref cd, .int (nI sz0), .ref st])), (cd, .inl (cy 0, n1, .inl fc)), (st, .inl (cy 2, 32, .inr (.inl g1)))] ++ (ltail cy ea na fl rs1)) := tl_subD hD [0, 1, 2, 3, 4, 5, 6, 7, 8] (by decide) rfl
      refine W.widen (k := 0) (n := 0) (by omega) (by omega) ?_
      exact W.vret hx hb hr (fun t ht hW => ⟨⟨(uc2_1, uf2_1, rs1, g1, c1, s1), rfl, ⟨⟨hI2, hI3⟩, hu1, mr_all hI4 (Or.inr (by omega))⟩, by rw [ht]; exact hP9, hD9⟩, hS.F ht⟩) hS.2.2 dX4_markRows_57
    · have hmz : 0 < mz := pk_nle (a := mz) (b := 0) (by decide) c36
      refine lv_aload_n hx hb dX4_markRows_39 rfl (lv_at hl 3 rfl) ?_
      refine lv_iload_n hx hb dX4_markRows_40 rfl (lv_at hl 0 rfl) ?_
      refine mt_callvQ (wr := [(co, .inl (cy 2, 32, .inr (.inl c1))), (tb, .inr (6, [.ref ro, .ref xp, wr, .int sv])), (ro, .inr (0, [.int mod, .ref ea, .int (nI ln)])), (xp, .inr (2, [.ref cd, .int (nI sz0), .ref st])), (cd, .inl (cy 0, n1, .inl fc)), (st, .inl (cy 2, 32, .inr (.inl g1)))]) (va_runV (As := [.int (nI bk)]) (rest := []) ⟨hx, hb, hml, hown, hts⟩ (c_set l D cy e h0 tb us se co uc2_1 uf2_1 s1 bk fc sz0 H.size hu1) (cwV 1 hts gX4_markRows_X4_set rfl rfl rfl (by decide +kernel) ⟨Nat.le_of_ble_eq_true rfl, Nat.le_of_ble_eq_true rfl⟩) (mt_preV hP hD hK hS hA hG [0, 1, 3] rfl (by decide) (q := (RX4, TX4, 5)) (ci := 5) (q0 := 0) rfl rfl) rfl rfl hl.1 rfl (lv_room (Nat.le_of_ble_eq_true rfl)) dX4_markRows_41 ⟨(Nat.le_of_ble_eq_true rfl), (Nat.le_of_ble_eq_true rfl)⟩) hP hD hS hA [0, 1, 3] [2, 4, 5, 6, 7, 8] rfl rfl rfl (by decide) (by decide) (fun u H locs hw hP hD hS => ?_)
      obtain ⟨sf2_41, rfl⟩ : ∃ z, z = u := ⟨_, rfl⟩
      have hP : va_P D vwCl ([(co, .inl (cy 2, 32, .inr (.inl c1))), (tb, .inr (6, [.ref ro, .ref xp, wr, .int sv])), (ro, .inr (0, [.int mod, .ref ea, .int (nI ln)])), (xp, .inr (2, [.ref cd, .int (nI sz0), .ref st])), (cd, .inl (cy 0, n1, .inl fc)), (st, .inl (cy 2, 32, .inr (.inl g1))), (h0, .inr (5, [.ref tb, .ref us, .int (nI uc2_1), .ref se, .ref co])), (us, .inl (cy 1, 16, .inl uf2_1)), (se, .inl (cy 2, 16, .inr (.inl sf2_41)))] ++ (ltail cy ea na fl rs1)) H := hP
      have hD : va_D A ([(co, .inl (cy 2, 32, .inr (.inl c1))), (tb, .inr (6, [.ref ro, .ref xp, wr, .int sv])), (ro, .inr (0, [.int mod, .ref ea, .int (nI ln)])), (xp, .inr (2, [.ref cd, .int (nI sz0), .ref st])), (cd, .inl (cy 0, n1, .inl fc)), (st, .inl (cy 2, 32, .inr (.inl g1))), (h0, .inr (5, [.ref tb, .ref us, .int (nI uc2_1), .ref se, .ref co])), (us, .inl (cy 1, 16, .inl uf2_1)), (se, .inl (cy 2, 16, .inr (.inl sf2_41)))] ++ (ltail cy ea na fl rs1)) := hD
      replace hw : mtch uc2_1 uf2_1 bk sf2_41 := hw
      refine W.widen (k := 0) (n := 0) (by omega) (by omega) ?_
      have hw41 := hw
      refine lv_iload_n hx hb dX4_markRows_44 rfl (lv_at hl 1 rfl) ?_
      refine lv_aload_n hx hb dX4_markRows_45 rfl (lv_at hl 3 rfl) ?_
      refine mt_calliP (w1 := (fun (u : List rwT × (Nat → Int64) × (Nat → Int64) × Nat) => match u with | (rs2, g2, cf2, md2) => [(h0, .inr (5, [.ref tb, .ref us, .int (nI uc2_1), .ref se, .ref co])), (co, .inl (cy 2, 32, .inr (.inl cf2))), (se, .inl (cy 2, 16, .inr (.inl sf2_41))), (tb, .inr (6, [.ref ro, .ref xp, wr, .int sv])), (ro, .inr (0, [.int mod, .ref ea, .int (nI ln)])), (xp, .inr (2, [.ref cd, .int (nI sz0), .ref st])), (cd, .inl (cy 0, n1, .inl fc)), (st, .inl (cy 2, 32, .inr (.inl g2)))])) (T1 := (fun (u : List rwT × (Nat → Int64) × (Nat → Int64) × Nat) => match u with | (rs2, g2, cf2, md2) => ltail cy ea na fl rs2)) (wr := [(us, .inl (cy 1, 16, .inl uf2_1))]) (va_runV (As := []) (rest := [.int (nI mz)]) ⟨hx, hb, hml, hown, hts⟩ (c_markBlock l D cy e h0 tb us se co ro xp wr sv cd sz0 st n1 fc g1 mod ea ln na fl rs1 (nI uc2_1) c1 sf2_41 (vvs sf2_41) hs H.size hsz hn1 hI2 hna hI3 (cev_t (fun _ _ _ q9 => q9.1) hI4 (hev _)) (ract_t (fun _ _ _ q9 => q9.1) hI4 hac) (mb_12 hI4)) (cwV 0 hts gX4_markRows_X4_markBlock rfl rfl rfl (by decide +kernel) ⟨Nat.le_of_ble_eq_true rfl, Nat.le_of_ble_eq_true rfl⟩) (mt_preVT hP hD hK hS hA hG [6, 0, 8, 1, 2, 3, 4, 5] rfl (by decide) (q := (RX4, TX4, 5)) (ci := 5) (q0 := 6) rfl rfl) rfl rfl hl.1 rfl (lv_room (Nat.le_of_ble_eq_true rfl)) dX4_markRows_46 ⟨(Nat.le_of_ble_eq_true rfl), (Nat.le_of_ble_eq_true rfl)⟩) hP hD hS hA [6, 0, 8, 1, 2, 3, 4, 5] [7] rfl rfl (by decide) (by decide) (fun r46 u H locs hw hP hD hS => ?_)
      obtain ⟨rs2_46, g2_46, cf2_46, md2_46⟩ := u
      have hP : va_P D vwCl ([(us, .inl (cy 1, 16, .inl uf2_1)), (h0, .inr (5, [.ref tb, .ref us, .int (nI uc2_1), .ref se, .ref co])), (co, .inl (cy 2, 32, .inr (.inl cf2_46))), (se, .inl (cy 2, 16, .inr (.inl sf2_41))), (tb, .inr (6, [.ref ro, .ref xp, wr, .int sv])), (ro, .inr (0, [.int mod, .ref ea, .int (nI ln)])), (xp, .inr (2, [.ref cd, .int (nI sz0), .ref st])), (cd, .inl (cy 0, n1, .inl fc)), (st, .inl (cy 2, 32, .inr (.inl g2_46)))] ++ (ltail cy ea na fl rs2_46)) H := hP
      have hD : va_D A ([(us, .inl (cy 1, 16, .inl uf2_1)), (h0, .inr (5, [.ref tb, .ref us, .int (nI uc2_1), .ref se, .ref co])), (co, .inl (cy 2, 32, .inr (.inl cf2_46))), (se, .inl (cy 2, 16, .inr (.inl sf2_41))), (tb, .inr (6, [.ref ro, .ref xp, wr, .int sv])), (ro, .inr (0, [.int mod, .ref ea, .int (nI ln)])), (xp, .inr (2, [.ref cd, .int (nI sz0), .ref st])), (cd, .inl (cy 0, n1, .inl fc)), (st, .inl (cy 2, 32, .inr (.inl g2_46)))] ++ (ltail cy ea na fl rs2_46)) := hD
      replace hw : (lsok e ea na fl rs2_46 ∧ rs2_46.length = ln) ∧ rup rs1 rs2_46 (mbP (Fr hs (vvs sf2_41))) ∧ r46 = nI md2_46 ∧ cz rs2_46 + md2_46 = cz rs1 := hw
      refine W.widen (k := 0) (n := 0) (by omega) (by omega) ?_
      have hw46 := hw
      obtain rfl : r46 = nI md2_46 := hw46.2.2.1
      have o46 := hw46.2.2.2
      refine lv_isub hx hb dX4_markRows_49 ?_
      refine lv_topi (fun x_4 ex_4 => ?_)
      obtain rfl : x_4 = nI (mz - md2_46) := by rw [ex_4]; exact pk_sub (by omega)
      refine lv_istore_n (lv' := [(2, .int (nI (mz - md2_46))), (3, .int (nI bk)), (1, .int (nI (2 ^ (uc2_1 - 6)))), (0, .ref h0)]) hx hb dX4_markRows_50 rfl hl (by decide) rfl (fun ls hl => ?_)
      refine lv_iinc (v := nI (bk + 1)) (lv' := [(3, .int (nI (bk + 1))), (2, .int (nI (mz - md2_46))), (1, .int (nI (2 ^ (uc2_1 - 6)))), (0, .ref h0)]) hx hb dX4_markRows_51 hl (k := 1) rfl (nI_1 bk) (by decide) rfl (fun ls hl => ?_)
      refine lv_goto (tgt := 30) hx hb dX4_markRows_54 (by decide) ?_
      exact ih30 ((bk + 1), (mz - md2_46), rs2_46, g2_46, cf2_46, sf2_41) _ _ ls ⟨tl_subP hP [1, 0, 2, 3, 4, 5, 6, 7, 8] rfl, tl_subD hD [1, 0, 2, 3, 4, 5, 6, 7, 8] (by decide) rfl, hS, lv_sub hl [0, 1, 2, 3] rfl, ⟨hw46.1, mr_s hI4 hw41 hw46.2.1, by have o9 := hw46.2.2.2; omega, by omega⟩⟩ (by (try dsimp only); omega)

set_option maxHeartbeats 4000000 in
set_option maxRecDepth 100000 in
theorem c_Table_idleRow (l : Launch) (D : va_G) (cy : Nat → ClassId) (e : Nat → Nat)  (tb : Nat) (ro : Nat) (xp : Nat) (wr : Value) (sv : Int32) (cd : Nat) (sz0 : Nat) (st : Nat) (n1 : Nat) (fc : Nat → Int32) (g : Nat → Int64) (mod : Int32) (ea : Nat) (ln : Nat) (na : Nat) (fl : Nat → Option Nat) (rs : List rwT) (hs : Nat → Nat → Bool) (vvs : (Nat → Int64) → Nat → Int64) (k : Int32) (sz : Nat) (hsz : sz0 ≤ n1) (hn1 : n1 < 65536) (hls : lsok e ea na fl rs) (hna : na ≤ 60) (hln : rs.length = ln) (hev : ∀ σ, cev rs fc sz0 σ (vvs σ)) (hac : ∀ (k : Nat) (x : rwT), rs[k]? = some x → ractP hs k x) (hz0 : sv = 0 → ∀ (k : Nat) (x : rwT), rs[k]? = some x → x.2.2.1 12 = 0) : Met l yX5_idleRow wsX5_idleRow ({ frames := 5, cells := 4, slots := 69, locals := 119 }) (va_Pc [.ref tb, .int k] (mt_B D cy e ([(tb, .inr (6, [.ref ro, .ref xp, wr, .int sv])), (ro, .inr (0, [.int mod, .ref ea, .int (nI ln)])), (xp, .inr (2, [.ref cd, .int (nI sz0), .ref st])), (cd, .inl (cy 0, n1, .inl fc)), (st, .inl (cy 2, 32, .inr (.inl g)))] ++ (ltail cy ea na fl rs)) sz)) (va_Qi (fun (r : Int32) (u : List rwT × (Nat → Int64) × Int32) => match u with | (rs2, g2, sv2) => (lsok e ea na fl rs2 ∧ rs2.length = ln) ∧ (¬ sv = 0 → rs2 = rs) ∧ (sv = 0 → ∃ uc uf, usdP fc sz0 uc uf ∧ rup rs rs2 (mrP hs vvs uc uf (2 ^ (uc - 6)))) ∧ r = fp_pk (idq rs2) ln 0 k ∧ ¬ sv2 = 0) (mt_Q D (fun (u : List rwT × (Nat → Int64) × Int32) => match u with | (rs2, g2, sv2) => ([(tb, .inr (6, [.ref ro, .ref xp, wr, .int sv2])), (ro, .inr (0, [.int mod, .ref ea, .int (nI ln)])), (xp, .inr (2, [.ref cd, .int (nI sz0), .ref st])), (cd, .inl (cy 0, n1, .inl fc)), (st, .inl (cy 2, 32, .inr (.inl g2)))] ++ (ltail cy ea na fl rs2))) (va_A ([(tb, .inr (6, [.ref ro, .ref xp, wr, .int sv])), (ro, .inr (0, [.int mod, .ref ea, .int (nI ln)])), (xp, .inr (2, [.ref cd, .int (nI sz0), .ref st])), (cd, .inl (cy 0, n1, .inl fc)), (st, .inl (cy 2, 32, .inr (.inl g)))] ++ (ltail cy ea na fl rs)) sz)) (va_A ([(tb, .inr (6, [.ref ro, .ref xp, wr, .int sv])), (ro, .inr (0, [.int mod, .ref ea, .int (nI ln)])), (xp, .inr (2, [.ref cd, .int (nI sz0), .ref st])), (cd, .inl (cy 0, n1, .inl fc)), (st, .inl (cy 2, 32, .inr (.inl g)))] ++ (ltail cy ea na fl rs)) sz)) (4) (69) (va_A ([(tb, .inr (6, [.ref ro, .ref xp, wr, .int sv])), (ro, .inr (0, [.int mod, .ref ea, .int (nI ln)])), (xp, .inr (2, [.ref cd, .int (nI sz0), .ref st])), (cd, .inl (cy 0, n1, .inl fc)), (st, .inl (cy 2, 32, .inr (.inl g)))] ++ (ltail cy ea na fl rs)) sz) := by
  refine Met.ofW (cc := cX5_idleRow) (maxL := 2) (ret := (some .int)) (by decide) rfl ?_
  intro p ev s m args below meth c s₁ B hml hv
  obtain ⟨rfl, hsz, hP, hK, hD0, hG⟩ := hv
  have hx := B.exec
  have hb := B.bytes
  have hr := B.returns
  have hts := atoms_spec (ws := wsX5_idleRow) B.pre
  have hown : s.vm.findClass RX5 = some m.cls := findClass_of_methodNamed B.named
  have hlocks := B.notSynchronized
  subst hsz
  have hD := hD0.self (sz := s.heap.size)
  generalize hAe : va_A ([(tb, .inr (6, [.ref ro, .ref xp, wr, .int sv])), (ro, .inr (0, [.int mod, .ref ea, .int (nI ln)])), (xp, .inr (2, [.ref cd, .int (nI sz0), .ref st])), (cd, .inl (cy 0, n1, .inl fc)), (st, .inl (cy 2, 32, .inr (.inl g)))] ++ (ltail cy ea na fl rs)) s.heap.size = A at hD hG ⊢
  have hA : ∀ q : Nat, s.heap.size ≤ q → A q := fun q h => by rw [← hAe]; exact Or.inr h
  have hS : va_S A s.heap s.heap [] := va_S.rf
  have hP : va_P D vwCl ([(tb, .inr (6, [.ref ro, .ref xp, wr, .int sv])), (ro, .inr (0, [.int mod, .ref ea, .int (nI ln)])), (xp, .inr (2, [.ref cd, .int (nI sz0), .ref st])), (cd, .inl (cy 0, n1, .inl fc)), (st, .inl (cy 2, 32, .inr (.inl g)))] ++ (ltail cy ea na fl rs)) s.heap := hP
  have iX5 : ∀ w ∈ wsX50, w ∈ wsX5_idleRow := fun w h => List.mem_cons_of_mem _ (List.mem_append_left _ (List.mem_append_left _ (List.mem_append_left _ (List.mem_append_left _ (List.mem_append_right _ h)))))
  have iX4 : ∀ w ∈ wsX40, w ∈ wsX5_idleRow := fun w h => List.mem_cons_of_mem _ (List.mem_append_left _ (List.mem_append_left _ (List.mem_append_left _ (List.mem_append_right _ h))))
  have iX1 : ∀ w ∈ wsX10, w ∈ wsX5_idleRow := fun w h => List.mem_cons_of_mem _ (List.mem_append_left _ (List.mem_append_left _ (List.mem_append_right _ h)))
  have iJx4a65c : ∀ w ∈ wsJx4a65c0, w ∈ wsX5_idleRow := fun w h => List.mem_cons_of_mem _ (List.mem_append_left _ (List.mem_append_right _ h))
  have iX3 : ∀ w ∈ wsX30, w ∈ wsX5_idleRow := fun w h => List.mem_cons_of_mem _ (List.mem_append_right _ h)
  have hl := lv_entry ([.ref tb, .int k]) (n := 2) (Nat.le_of_ble_eq_true rfl)
  rw [lg_entry_eq]
  generalize (lg_sl ([.ref tb, .int k]) ++ List.replicate (2 - (lg_sl ([.ref tb, .int k])).length) Slot.unset).toArray = ls at hl ⊢
  have hl : lv_has ls 2 [(0, .ref tb), (1, .int k)] := hl
  refine lv_aload_n hx hb dX5_idleRow_0 rfl (lv_at hl 0 rfl) ?_
  refine va_get (D := D) (ci := 6) (v := .int sv) (C := RX5) (T := TX5) (N := 4) hx hb hts iX5 hown hK hP 0 rfl rfl 3 (by decide) (hts (.fieldLink RX5 71 "InterlockTables$Table" "surveyed" "Z") (by decide +kernel)) (fun _ h9 => h9) rfl dX5_idleRow_1 ?_
  refine lv_if_ne (tgt := 23) hx hb dX5_idleRow_4 (by decide) (fun c4 => ?_) (fun c4 => ?_)
  · refine lv_aload_n hx hb dX5_idleRow_23 rfl (lv_at hl 0 rfl) ?_
    refine lv_iload_n hx hb dX5_idleRow_24 rfl (lv_at hl 1 rfl) ?_
    refine lv_iconst (v := 0) hx hb dX5_idleRow_25 (by decide +kernel) ?_
    refine pu_callni (va_runV (As := [.int k, .int 0]) (rest := []) ⟨hx, hb, hml, hown, hts⟩ (c_Table_pick l D cy e tb ro xp wr sv mod ea ln na fl rs (idq rs) k 0 hls hna hln (fun i x hx => by rw [if_pos rfl]; exact idq_iff hx)) (cwV 2 hts gX5_idleRow_X5_pick rfl rfl rfl (by decide +kernel) ⟨Nat.le_of_ble_eq_true rfl, Nat.le_of_ble_eq_true rfl⟩) (pu_preVT hP hK hS hG [0, 1] rfl (q := (RX5, TX5, 4)) (ci := 6) (q0 := 0) rfl rfl) rfl rfl hl.1 rfl (lv_room (Nat.le_of_ble_eq_true rfl)) dX5_idleRow_26 ⟨(Nat.le_of_ble_eq_true rfl), (Nat.le_of_ble_eq_true rfl)⟩) hP hS (fun r26 H locs hw hP hS => ?_)
    have hP : va_P D vwCl ([(tb, .inr (6, [.ref ro, .ref xp, wr, .int sv])), (ro, .inr (0, [.int mod, .ref ea, .int (nI ln)])), (xp, .inr (2, [.ref cd, .int (nI sz0), .ref st])), (cd, .inl (cy 0, n1, .inl fc)), (st, .inl (cy 2, 32, .inr (.inl g)))] ++ (ltail cy ea na fl rs)) H := hP
    replace hw : r26 = fp_pk (idq rs) ln 0 k := hw
    have hw26 := hw
    have hP9 : va_P D vwCl ([(tb, .inr (6, [.ref ro, .ref xp, wr, .int sv])), (ro, .inr (0, [.int mod, .ref ea, .int (nI ln)])), (xp, .inr (2, [.ref cd, .int (nI sz0), .ref st])), (cd, .inl (cy 0, n1, .inl fc)), (st, .inl (cy 2, 32, .inr (.inl g)))] ++ (ltail cy ea na fl rs)) H := tl_subP hP [0, 1, 2, 3, 4] rfl
    have hD9 : va_D A ([(tb, .inr (6, [.ref ro, .ref xp, wr, .int sv])), (ro, .inr (0, [.int mod, .ref ea, .int (nI ln)])), (xp, .inr (2, [.ref cd, .int (nI sz0), .ref st])), (cd, .inl (cy 0, n1, .inl fc)), (st, .inl (cy 2, 32, .inr (.inl g)))] ++ (ltail cy ea na fl rs)) := tl_subD hD [0, 1, 2, 3, 4] (by decide) rfl
    refine W.widen (k := 4) (n := 69) (by omega) (by omega) ?_
    exact W.iret hx hb hr (fun t ht hW => ⟨⟨_, (rs, g, sv), rfl, ⟨⟨hls, hln⟩, fun _ => rfl, fun q9 => absurd q9 c4, hw26, c4⟩, by rw [ht]; exact hP9, hD9⟩, hS.F ht⟩) hS.2.2 dX5_idleRow_29
  · refine va_new (ci := 5) (fs := [.null, .null, .int 0, .null, .null]) (C := RX4) (T := TX4) (N := 5) hx hb hts iX4 tyX4 tyX4_ok hown (hts (.classLink RX5 75 RX4) (by decide +kernel)) (hts (.instantiable RX4 5) (by decide +kernel)) (hts (.initialized RX4) (by decide +kernel)) hK hP hD hS hA rfl (by decide +kernel) (Nat.le_of_ble_eq_true rfl) (Nat.le_of_ble_eq_true rfl) dX5_idleRow_7 (fun a7 H hP hD hS => ?_)
    replace hP := tl_Pp tl_snoc hP
    replace hD := tl_Dp tl_snoc hD
    have hP : va_P D vwCl ([(tb, .inr (6, [.ref ro, .ref xp, wr, .int sv])), (ro, .inr (0, [.int mod, .ref ea, .int (nI ln)])), (xp, .inr (2, [.ref cd, .int (nI sz0), .ref st])), (cd, .inl (cy 0, n1, .inl fc)), (st, .inl (cy 2, 32, .inr (.inl g))), (a7, .inr (5, [.null, .null, .int 0, .null, .null]))] ++ (ltail cy ea na fl rs)) H := hP
    have hD : va_D A ([(tb, .inr (6, [.ref ro, .ref xp, wr, .int sv])), (ro, .inr (0, [.int mod, .ref ea, .int (nI ln)])), (xp, .inr (2, [.ref cd, .int (nI sz0), .ref st])), (cd, .inl (cy 0, n1, .inl fc)), (st, .inl (cy 2, 32, .inr (.inl g))), (a7, .inr (5, [.null, .null, .int 0, .null, .null]))] ++ (ltail cy ea na fl rs)) := hD
    refine W.widen (k := 1) (n := 5) (by omega) (by omega) ?_
    refine lv_dup hx hb dX5_idleRow_10 rfl ?_
    refine lv_aload_n hx hb dX5_idleRow_11 rfl (lv_at hl 0 rfl) ?_
    refine mt_callvQ (wr := [(tb, .inr (6, [.ref ro, .ref xp, wr, .int sv])), (ro, .inr (0, [.int mod, .ref ea, .int (nI ln)])), (xp, .inr (2, [.ref cd, .int (nI sz0), .ref st])), (cd, .inl (cy 0, n1, .inl fc)), (st, .inl (cy 2, 32, .inr (.inl g)))]) (va_runI (As := [.ref tb]) (rest := [.ref a7]) ⟨hx, hb, hml, hown, hts⟩ (c_Survey_init l D cy e a7 tb H.size ) (cwI 1 hts gX5_idleRow_X4_init rfl rfl rfl (hts (.initialized RX4) (by decide +kernel)) (hts (.methodLink RX5 77 yX4_init) (by decide +kernel)) (hts (.instanceMethod yX4_init) (by decide +kernel)) rfl (by decide +kernel) ⟨Nat.le_of_ble_eq_true rfl, Nat.le_of_ble_eq_true rfl⟩) (mt_preS hP hD hK hS hA hG [5] rfl (by decide)) rfl rfl hl.1 rfl (lv_room (Nat.le_of_ble_eq_true rfl)) dX5_idleRow_12 ⟨(Nat.le_of_ble_eq_true rfl), (Nat.le_of_ble_eq_true rfl)⟩) hP hD hS hA [5] [0, 1, 2, 3, 4] rfl rfl rfl (by decide) (by decide) (fun u H locs hw hP hD hS => ?_)
    obtain ⟨us_12, se_12, co_12⟩ := u
    have hP : va_P D vwCl ([(tb, .inr (6, [.ref ro, .ref xp, wr, .int sv])), (ro, .inr (0, [.int mod, .ref ea, .int (nI ln)])), (xp, .inr (2, [.ref cd, .int (nI sz0), .ref st])), (cd, .inl (cy 0, n1, .inl fc)), (st, .inl (cy 2, 32, .inr (.inl g))), (a7, .inr (5, [.ref tb, .ref us_12, .int (nI 0), .ref se_12, .ref co_12])), (us_12, .inl (cy 1, 16, .inl (fun _ => 0))), (se_12, .inl (cy 2, 16, .inr (.inl (fun _ => 0)))), (co_12, .inl (cy 2, 32, .inr (.inl (fun _ => 0))))] ++ (ltail cy ea na fl rs)) H := hP
    have hD : va_D A ([(tb, .inr (6, [.ref ro, .ref xp, wr, .int sv])), (ro, .inr (0, [.int mod, .ref ea, .int (nI ln)])), (xp, .inr (2, [.ref cd, .int (nI sz0), .ref st])), (cd, .inl (cy 0, n1, .inl fc)), (st, .inl (cy 2, 32, .inr (.inl g))), (a7, .inr (5, [.ref tb, .ref us_12, .int (nI 0), .ref se_12, .ref co_12])), (us_12, .inl (cy 1, 16, .inl (fun _ => 0))), (se_12, .inl (cy 2, 16, .inr (.inl (fun _ => 0)))), (co_12, .inl (cy 2, 32, .inr (.inl (fun _ => 0))))] ++ (ltail cy ea na fl rs)) := hD
    replace hw : True := hw
    refine W.widen (k := 4) (n := 69) (by omega) (by omega) ?_
    refine mt_callvP (w1 := (fun (u : Nat × (Nat → Int32) × List rwT × (Nat → Int64) × (Nat → Int64) × (Nat → Int64)) => match u with | (uc2, uf2, rs2, g2, cf2, sf2) => [(a7, .inr (5, [.ref tb, .ref us_12, .int (nI uc2), .ref se_12, .ref co_12])), (us_12, .inl (cy 1, 16, .inl uf2)), (co_12, .inl (cy 2, 32, .inr (.inl cf2))), (se_12, .inl (cy 2, 16, .inr (.inl sf2))), (tb, .inr (6, [.ref ro, .ref xp, wr, .int sv])), (ro, .inr (0, [.int mod, .ref ea, .int (nI ln)])), (xp, .inr (2, [.ref cd, .int (nI sz0), .ref st])), (cd, .inl (cy 0, n1, .inl fc)), (st, .inl (cy 2, 32, .inr (.inl g2)))])) (T1 := (fun (u : Nat × (Nat → Int32) × List rwT × (Nat → Int64) × (Nat → Int64) × (Nat → Int64)) => match u with | (uc2, uf2, rs2, g2, cf2, sf2) => ltail cy ea na fl rs2)) (wr := []) (va_runV (As := []) (rest := []) ⟨hx, hb, hml, hown, hts⟩ (c_markRows l D cy e a7 tb us_12 se_12 co_12 ro xp wr sv cd sz0 st n1 fc g mod ea ln na fl rs 0 (fun _ => 0) (fun _ => 0) (fun _ => 0) hs vvs H.size hsz hn1 hls hna hln hev hac (hz0 c4) rfl) (cwV 0 hts gX5_idleRow_X4_markRows rfl rfl rfl (by decide +kernel) ⟨Nat.le_of_ble_eq_true rfl, Nat.le_of_ble_eq_true rfl⟩) (mt_preVT hP hD hK hS hA hG [5, 6, 8, 7, 0, 1, 2, 3, 4] rfl (by decide) (q := (RX4, TX4, 5)) (ci := 5) (q0 := 5) rfl rfl) rfl rfl hl.1 rfl (lv_room (Nat.le_of_ble_eq_true rfl)) dX5_idleRow_15 ⟨(Nat.le_of_ble_eq_true rfl), (Nat.le_of_ble_eq_true rfl)⟩) hP hD hS hA [5, 6, 8, 7, 0, 1, 2, 3, 4] [] rfl rfl (by decide) (by decide) (fun u H locs hw hP hD hS => ?_)
    obtain ⟨uc2_15, uf2_15, rs2_15, g2_15, cf2_15, sf2_15⟩ := u
    have hP : va_P D vwCl ([(a7, .inr (5, [.ref tb, .ref us_12, .int (nI uc2_15), .ref se_12, .ref co_12])), (us_12, .inl (cy 1, 16, .inl uf2_15)), (co_12, .inl (cy 2, 32, .inr (.inl cf2_15))), (se_12, .inl (cy 2, 16, .inr (.inl sf2_15))), (tb, .inr (6, [.ref ro, .ref xp, wr, .int sv])), (ro, .inr (0, [.int mod, .ref ea, .int (nI ln)])), (xp, .inr (2, [.ref cd, .int (nI sz0), .ref st])), (cd, .inl (cy 0, n1, .inl fc)), (st, .inl (cy 2, 32, .inr (.inl g2_15)))] ++ (ltail cy ea na fl rs2_15)) H := hP
    have hD : va_D A ([(a7, .inr (5, [.ref tb, .ref us_12, .int (nI uc2_15), .ref se_12, .ref co_12])), (us_12, .inl (cy 1, 16, .inl uf2_15)), (co_12, .inl (cy 2, 32, .inr (.inl cf2_15))), (se_12, .inl (cy 2, 16, .inr (.inl sf2_15))), (tb, .inr (6, [.ref ro, .ref xp, wr, .int sv])), (ro, .inr (0, [.int mod, .ref ea, .int (nI ln)])), (xp, .inr (2, [.ref cd, .int (nI sz0), .ref st])), (cd, .inl (cy 0, n1, .inl fc)), (st, .inl (cy 2, 32, .inr (.inl g2_15)))] ++ (ltail cy ea na fl rs2_15)) := hD
    replace hw : ((lsok e ea na fl rs2_15 ∧ rs2_15.length = ln) ∧ usdP fc sz0 uc2_15 uf2_15 ∧ rup rs rs2_15 (mrP hs vvs uc2_15 uf2_15 (2 ^ (uc2_15 - 6)))) := hw
    refine W.widen (k := 4) (n := 69) (by omega) (by omega) ?_
    have hw15 := hw
    refine lv_aload_n hx hb dX5_idleRow_18 rfl (lv_at hl 0 rfl) ?_
    refine lv_iconst (v := 1) hx hb dX5_idleRow_19 (by decide +kernel) ?_
    refine va_put (D := D) (ci := 6) (v := .int 1) (ty := .boolean) (C := RX5) (T := TX5) (N := 4) hx hb hts iX5 tyX5 tyX5_ok nmX5 hown hK hP hD hS 4 rfl rfl 3 (by decide) (hts (.fieldLink RX5 71 "InterlockTables$Table" "surveyed" "Z") (by decide +kernel)) (fun _ h9 => h9) rfl (by decide +kernel) rfl rfl (Nat.le_of_ble_eq_true rfl) dX5_idleRow_20 (fun H locs hP hD hS => ?_)
    have hP : va_P D vwCl ([(a7, .inr (5, [.ref tb, .ref us_12, .int (nI uc2_15), .ref se_12, .ref co_12])), (us_12, .inl (cy 1, 16, .inl uf2_15)), (co_12, .inl (cy 2, 32, .inr (.inl cf2_15))), (se_12, .inl (cy 2, 16, .inr (.inl sf2_15))), (tb, .inr (6, [.ref ro, .ref xp, wr, .int 1])), (ro, .inr (0, [.int mod, .ref ea, .int (nI ln)])), (xp, .inr (2, [.ref cd, .int (nI sz0), .ref st])), (cd, .inl (cy 0, n1, .inl fc)), (st, .inl (cy 2, 32, .inr (.inl g2_15)))] ++ (ltail cy ea na fl rs2_15)) H := hP
    have hD : va_D A ([(a7, .inr (5, [.ref tb, .ref us_12, .int (nI uc2_15), .ref se_12, .ref co_12])), (us_12, .inl (cy 1, 16, .inl uf2_15)), (co_12, .inl (cy 2, 32, .inr (.inl cf2_15))), (se_12, .inl (cy 2, 16, .inr (.inl sf2_15))), (tb, .inr (6, [.ref ro, .ref xp, wr, .int 1])), (ro, .inr (0, [.int mod, .ref ea, .int (nI ln)])), (xp, .inr (2, [.ref cd, .int (nI sz0), .ref st])), (cd, .inl (cy 0, n1, .inl fc)), (st, .inl (cy 2, 32, .inr (.inl g2_15)))] ++ (ltail cy ea na fl rs2_15)) := hD
    refine lv_aload_n hx hb dX5_idleRow_23 rfl (lv_at hl 0 rfl) ?_
    refine lv_iload_n hx hb dX5_idleRow_24 rfl (lv_at hl 1 rfl) ?_
    refine lv_iconst (v := 0) hx hb dX5_idleRow_25 (by decide +kernel) ?_
    refine pu_callni (va_runV (As := [.int k, .int 0]) (rest := []) ⟨hx, hb, hml, hown, hts⟩ (c_Table_pick l D cy e tb ro xp wr 1 mod ea ln na fl rs2_15 (idq rs2_15) k 0 hw15.1.1 hna hw15.1.2 (fun i x hx => by rw [if_pos rfl]; exact idq_iff hx)) (cwV 2 hts gX5_idleRow_X5_pick rfl rfl rfl (by decide +kernel) ⟨Nat.le_of_ble_eq_true rfl, Nat.le_of_ble_eq_true rfl⟩) (pu_preVT hP hK hS hG [4, 5] rfl (q := (RX5, TX5, 4)) (ci := 6) (q0 := 4) rfl rfl) rfl rfl hl.1 rfl (lv_room (Nat.le_of_ble_eq_true rfl)) dX5_idleRow_26 ⟨(Nat.le_of_ble_eq_true rfl), (Nat.le_of_ble_eq_true rfl)⟩) hP hS (fun r26 H locs hw hP hS => ?_)
    have hP : va_P D vwCl ([(a7, .inr (5, [.ref tb, .ref us_12, .int (nI uc2_15), .ref se_12, .ref co_12])), (us_12, .inl (cy 1, 16, .inl uf2_15)), (co_12, .inl (cy 2, 32, .inr (.inl cf2_15))), (se_12, .inl (cy 2, 16, .inr (.inl sf2_15))), (tb, .inr (6, [.ref ro, .ref xp, wr, .int 1])), (ro, .inr (0, [.int mod, .ref ea, .int (nI ln)])), (xp, .inr (2, [.ref cd, .int (nI sz0), .ref st])), (cd, .inl (cy 0, n1, .inl fc)), (st, .inl (cy 2, 32, .inr (.inl g2_15)))] ++ (ltail cy ea na fl rs2_15)) H := hP
    replace hw : r26 = fp_pk (idq rs2_15) ln 0 k := hw
    have hw26 := hw
    have hP9 : va_P D vwCl ([(tb, .inr (6, [.ref ro, .ref xp, wr, .int 1])), (ro, .inr (0, [.int mod, .ref ea, .int (nI ln)])), (xp, .inr (2, [.ref cd, .int (nI sz0), .ref st])), (cd, .inl (cy 0, n1, .inl fc)), (st, .inl (cy 2, 32, .inr (.inl g2_15)))] ++ (ltail cy ea na fl rs2_15)) H := tl_subP hP [4, 5, 6, 7, 8] rfl
    have hD9 : va_D A ([(tb, .inr (6, [.ref ro, .ref xp, wr, .int 1])), (ro, .inr (0, [.int mod, .ref ea, .int (nI ln)])), (xp, .inr (2, [.ref cd, .int (nI sz0), .ref st])), (cd, .inl (cy 0, n1, .inl fc)), (st, .inl (cy 2, 32, .inr (.inl g2_15)))] ++ (ltail cy ea na fl rs2_15)) := tl_subD hD [4, 5, 6, 7, 8] (by decide) rfl
    refine W.widen (k := 4) (n := 69) (by omega) (by omega) ?_
    exact W.iret hx hb hr (fun t ht hW => ⟨⟨_, (rs2_15, g2_15, 1), rfl, ⟨hw15.1, fun q9 => absurd c4 q9, fun _ => ⟨_, _, hw15.2.1, hw15.2.2⟩, hw26, by decide⟩, by rw [ht]; exact hP9, hD9⟩, hS.F ht⟩) hS.2.2 dX5_idleRow_29
