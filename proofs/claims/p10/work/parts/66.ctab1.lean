-- deps: 65

theorem fd_ix {k : Int32} {ln : Nat} (h1 : ¬ k < 1) (h2 : k ≤ nI ln) (hl : ln < 2 ^ 31) : ∃ kn : Nat, k = nI (kn + 1) ∧ kn < ln := by
  have h0 : ¬ k < 0 := by
    rw [pk_ti] at h1 ⊢
    have e1 : (1 : Int32).toInt = 1 := by decide
    have e0 : (0 : Int32).toInt = 0 := by decide
    omega
  obtain ⟨j, hj, rfl⟩ := nI_of h0
  have h3 := (nI_leI hj hl).mp h2
  have h4 : 1 ≤ j := by
    rcases Nat.eq_zero_or_pos j with rfl | h
    · exact absurd (show nI 0 < (1 : Int32) by decide) h1
    · exact h
  exact ⟨j - 1, by rw [show j - 1 + 1 = j by omega], by omega⟩
theorem pk_pred {k : Nat} : nI (k + 1) - 1 = nI k := by
  have h := pk_sub (a := k + 1) (b := 1) (by omega)
  rw [Nat.add_sub_cancel] at h
  exact h
set_option maxHeartbeats 4000000 in
set_option maxRecDepth 100000 in
theorem c_Table_letGoBy (l : Launch) (D : va_G) (cy : Nat → ClassId) (e : Nat → Nat)  (tb : Nat) (ro : Nat) (xp : Nat) (wr : Value) (sv : Int32) (cd : Nat) (sz0 : Nat) (st : Nat) (n1 : Nat) (fc : Nat → Int32) (g : Nat → Int64) (se : Nat) (sf : Nat → Int64) (mod : Int32) (ea : Nat) (ln : Nat) (na : Nat) (fl : Nat → Option Nat) (rs : List rwT) (vv : Nat → Int64) (k : Int32) (sz : Nat) (hsz : sz0 ≤ n1) (hn1 : n1 < 65536) (hls : lsok e ea na fl rs) (hna : na ≤ 60) (hln : rs.length = ln) (hev : cev rs fc sz0 sf vv) : Met l yX5_letGoBy wsX5_letGoBy ({ frames := 4, cells := 0, slots := 0, locals := 94 }) (va_Pc [.ref tb, .int k, .ref se] (mt_B D cy e ([(tb, .inr (6, [.ref ro, .ref xp, wr, .int sv])), (ro, .inr (0, [.int mod, .ref ea, .int (nI ln)])), (xp, .inr (2, [.ref cd, .int (nI sz0), .ref st])), (cd, .inl (cy 0, n1, .inl fc)), (st, .inl (cy 2, 32, .inr (.inl g))), (se, .inl (cy 2, 16, .inr (.inl sf)))] ++ (ltail cy ea na fl rs)) sz)) (va_Qv (fun (u : List rwT × (Nat → Int64)) => match u with | (rs2, g2) => (lsok e ea na fl rs2 ∧ rs2.length = ln) ∧ (¬ 1 ≤ k → rs2 = rs) ∧ (1 ≤ k → rup rs rs2 (tkP k vv))) (mt_Q D (fun (u : List rwT × (Nat → Int64)) => match u with | (rs2, g2) => ([(tb, .inr (6, [.ref ro, .ref xp, wr, .int sv])), (ro, .inr (0, [.int mod, .ref ea, .int (nI ln)])), (xp, .inr (2, [.ref cd, .int (nI sz0), .ref st])), (cd, .inl (cy 0, n1, .inl fc)), (st, .inl (cy 2, 32, .inr (.inl g2))), (se, .inl (cy 2, 16, .inr (.inl sf)))] ++ (ltail cy ea na fl rs2))) (va_A ([(tb, .inr (6, [.ref ro, .ref xp, wr, .int sv])), (ro, .inr (0, [.int mod, .ref ea, .int (nI ln)])), (xp, .inr (2, [.ref cd, .int (nI sz0), .ref st])), (cd, .inl (cy 0, n1, .inl fc)), (st, .inl (cy 2, 32, .inr (.inl g))), (se, .inl (cy 2, 16, .inr (.inl sf)))] ++ (ltail cy ea na fl rs)) sz)) (va_A ([(tb, .inr (6, [.ref ro, .ref xp, wr, .int sv])), (ro, .inr (0, [.int mod, .ref ea, .int (nI ln)])), (xp, .inr (2, [.ref cd, .int (nI sz0), .ref st])), (cd, .inl (cy 0, n1, .inl fc)), (st, .inl (cy 2, 32, .inr (.inl g))), (se, .inl (cy 2, 16, .inr (.inl sf)))] ++ (ltail cy ea na fl rs)) sz)) (0) (0) (va_A ([(tb, .inr (6, [.ref ro, .ref xp, wr, .int sv])), (ro, .inr (0, [.int mod, .ref ea, .int (nI ln)])), (xp, .inr (2, [.ref cd, .int (nI sz0), .ref st])), (cd, .inl (cy 0, n1, .inl fc)), (st, .inl (cy 2, 32, .inr (.inl g))), (se, .inl (cy 2, 16, .inr (.inl sf)))] ++ (ltail cy ea na fl rs)) sz) := by
  refine Met.ofW (cc := cX5_letGoBy) (maxL := 5) (ret := none) (by decide) rfl ?_
  intro p ev s m args below meth c s₁ B hml hv
  obtain ⟨rfl, hsz, hP, hK, hD0, hG⟩ := hv
  have hx := B.exec
  have hb := B.bytes
  have hr := B.returns
  have hts := atoms_spec (ws := wsX5_letGoBy) B.pre
  have hown : s.vm.findClass RX5 = some m.cls := findClass_of_methodNamed B.named
  have hlocks := B.notSynchronized
  subst hsz
  have hD := hD0.self (sz := s.heap.size)
  generalize hAe : va_A ([(tb, .inr (6, [.ref ro, .ref xp, wr, .int sv])), (ro, .inr (0, [.int mod, .ref ea, .int (nI ln)])), (xp, .inr (2, [.ref cd, .int (nI sz0), .ref st])), (cd, .inl (cy 0, n1, .inl fc)), (st, .inl (cy 2, 32, .inr (.inl g))), (se, .inl (cy 2, 16, .inr (.inl sf)))] ++ (ltail cy ea na fl rs)) s.heap.size = A at hD hG ⊢
  have hA : ∀ q : Nat, s.heap.size ≤ q → A q := fun q h => by rw [← hAe]; exact Or.inr h
  have hS : va_S A s.heap s.heap [] := va_S.rf
  have hP : va_P D vwCl ([(tb, .inr (6, [.ref ro, .ref xp, wr, .int sv])), (ro, .inr (0, [.int mod, .ref ea, .int (nI ln)])), (xp, .inr (2, [.ref cd, .int (nI sz0), .ref st])), (cd, .inl (cy 0, n1, .inl fc)), (st, .inl (cy 2, 32, .inr (.inl g))), (se, .inl (cy 2, 16, .inr (.inl sf)))] ++ (ltail cy ea na fl rs)) s.heap := hP
  have iX5 : ∀ w ∈ wsX50, w ∈ wsX5_letGoBy := fun w h => List.mem_cons_of_mem _ (List.mem_append_left _ (List.mem_append_left _ (List.mem_append_left _ (List.mem_append_right _ h))))
  have iJx4a65c : ∀ w ∈ wsJx4a65c0, w ∈ wsX5_letGoBy := fun w h => List.mem_cons_of_mem _ (List.mem_append_left _ (List.mem_append_left _ (List.mem_append_right _ h)))
  have iX3 : ∀ w ∈ wsX30, w ∈ wsX5_letGoBy := fun w h => List.mem_cons_of_mem _ (List.mem_append_left _ (List.mem_append_right _ h))
  have iX1 : ∀ w ∈ wsX10, w ∈ wsX5_letGoBy := fun w h => List.mem_cons_of_mem _ (List.mem_append_right _ h)
  have hl := lv_entry ([.ref tb, .int k, .ref se]) (n := 5) (Nat.le_of_ble_eq_true rfl)
  rw [lg_entry_eq]
  generalize (lg_sl ([.ref tb, .int k, .ref se]) ++ List.replicate (5 - (lg_sl ([.ref tb, .int k, .ref se])).length) Slot.unset).toArray = ls at hl ⊢
  have hl : lv_has ls 5 [(0, .ref tb), (1, .int k), (2, .ref se)] := hl
  refine lv_iload_n hx hb dX5_letGoBy_0 rfl (lv_at hl 1 rfl) ?_
  refine lv_iconst (v := 1) hx hb dX5_letGoBy_1 (by decide +kernel) ?_
  refine lv_icmp_ge (tgt := 6) hx hb dX5_letGoBy_2 (by decide) (fun c2 => ?_) (fun c2 => ?_)
  · refine lv_iconst (v := 0) hx hb dX5_letGoBy_6 (by decide +kernel) ?_
    refine lv_topi (fun x_1 ex_1 => ?_)
    obtain rfl : x_1 = nI 0 := by rw [ex_1]; exact nI_0.symm
    refine lv_istore_n (lv' := [(3, .int (nI 0)), (0, .ref tb), (1, .int k), (2, .ref se)]) hx hb dX5_letGoBy_7 rfl hl (by decide) rfl (fun ls hl => ?_)
    refine lp_W (σ := Nat × List rwT × (Nat → Int64)) (Wf := fun H locs ls => W p l ev _ s m _ below meth c H locs (0) (0) _ (F0 m 8 ls [])) (fun zz9 H locs ls => match zz9 with | (i, rs1, g1) => va_P D vwCl ([(tb, .inr (6, [.ref ro, .ref xp, wr, .int sv])), (ro, .inr (0, [.int mod, .ref ea, .int (nI ln)])), (xp, .inr (2, [.ref cd, .int (nI sz0), .ref st])), (cd, .inl (cy 0, n1, .inl fc)), (st, .inl (cy 2, 32, .inr (.inl g1))), (se, .inl (cy 2, 16, .inr (.inl sf)))] ++ (ltail cy ea na fl rs1)) H ∧ va_D A ([(tb, .inr (6, [.ref ro, .ref xp, wr, .int sv])), (ro, .inr (0, [.int mod, .ref ea, .int (nI ln)])), (xp, .inr (2, [.ref cd, .int (nI sz0), .ref st])), (cd, .inl (cy 0, n1, .inl fc)), (st, .inl (cy 2, 32, .inr (.inl g1))), (se, .inl (cy 2, 16, .inr (.inl sf)))] ++ (ltail cy ea na fl rs1)) ∧ va_S A s.heap H locs ∧ lv_has ls 5 [(3, .int (nI i)), (0, .ref tb), (1, .int k), (2, .ref se)] ∧ (i ≤ ln ∧ lsok e ea na fl rs1 ∧ rs1.length = ln ∧ lpI rs rs1 i (tkP k vv))) (fun zz9 => match zz9 with | (i, rs1, g1) => ln - i) ?_ (0, rs, g) _ _ ls ⟨hP, hD, hS, lv_sub hl [0, 1, 2, 3] rfl, ⟨Nat.zero_le _, hls, hln, lpI_0⟩⟩
    intro zz9 H locs ls hI ih
    obtain ⟨i, rs1, g1⟩ := zz9
    obtain ⟨hP, hD, hS, hl, hI⟩ := hI
    have ih8 := ih
    have hI8 := hI
    have hP : va_P D vwCl ([(tb, .inr (6, [.ref ro, .ref xp, wr, .int sv])), (ro, .inr (0, [.int mod, .ref ea, .int (nI ln)])), (xp, .inr (2, [.ref cd, .int (nI sz0), .ref st])), (cd, .inl (cy 0, n1, .inl fc)), (st, .inl (cy 2, 32, .inr (.inl g1))), (se, .inl (cy 2, 16, .inr (.inl sf)))] ++ (ltail cy ea na fl rs1)) H := hP
    have hD : va_D A ([(tb, .inr (6, [.ref ro, .ref xp, wr, .int sv])), (ro, .inr (0, [.int mod, .ref ea, .int (nI ln)])), (xp, .inr (2, [.ref cd, .int (nI sz0), .ref st])), (cd, .inl (cy 0, n1, .inl fc)), (st, .inl (cy 2, 32, .inr (.inl g1))), (se, .inl (cy 2, 16, .inr (.inl sf)))] ++ (ltail cy ea na fl rs1)) := hD
    have hl : lv_has ls 5 [(3, .int (nI i)), (0, .ref tb), (1, .int k), (2, .ref se)] := hl
    obtain ⟨hI1, hI2, hI3, hI4⟩ := hI
    refine lv_iload_n hx hb dX5_letGoBy_8 rfl (lv_at hl 0 rfl) ?_
    refine lv_aload_n hx hb dX5_letGoBy_9 rfl (lv_at hl 1 rfl) ?_
    refine va_get (D := D) (ci := 6) (v := .ref ro) (C := RX5) (T := TX5) (N := 4) hx hb hts iX5 hown hK hP 0 rfl rfl 0 (by decide) (hts (.fieldLink RX5 12 "InterlockTables$Table" "rows" "Ljava/util/ArrayList;") (by decide +kernel)) (fun _ h9 => h9) rfl dX5_letGoBy_10 ?_
    refine pu_calli (va_runV (As := []) (rest := [.int (nI i)]) ⟨hx, hb, hml, hown, hts⟩ (c_AL_size l D cy e ro mod (.ref ea) (nI ln) ) (cwV 0 hts gX5_letGoBy_Jx4a65c_size_8abf5 rfl rfl rfl (by decide +kernel) ⟨Nat.le_of_ble_eq_true rfl, Nat.le_of_ble_eq_true rfl⟩) (pu_preV hP hK hS hG [1] rfl (q := (RJx4a65c, TJx4a65c, 3)) (ci := 0) (q0 := 1) rfl rfl) rfl rfl hl.1 rfl (lv_room (Nat.le_of_ble_eq_true rfl)) dX5_letGoBy_13 ⟨(Nat.le_of_ble_eq_true rfl), (Nat.le_of_ble_eq_true rfl)⟩) hP hS (fun H locs hP hS => ?_)
    have hP : va_P D vwCl ([(tb, .inr (6, [.ref ro, .ref xp, wr, .int sv])), (ro, .inr (0, [.int mod, .ref ea, .int (nI ln)])), (xp, .inr (2, [.ref cd, .int (nI sz0), .ref st])), (cd, .inl (cy 0, n1, .inl fc)), (st, .inl (cy 2, 32, .inr (.inl g1))), (se, .inl (cy 2, 16, .inr (.inl sf)))] ++ (ltail cy ea na fl rs1)) H := hP
    refine lv_icmp_ge (tgt := 51) hx hb dX5_letGoBy_16 (by decide) (fun c16 => ?_) (fun c16 => ?_)
    · have hge : ln ≤ i := (nI_leI (by have h9 := hls.2.2.1; omega) (by have h9 := hls.2.2.1; omega)).mp c16
      have hP9 : va_P D vwCl ([(tb, .inr (6, [.ref ro, .ref xp, wr, .int sv])), (ro, .inr (0, [.int mod, .ref ea, .int (nI ln)])), (xp, .inr (2, [.ref cd, .int (nI sz0), .ref st])), (cd, .inl (cy 0, n1, .inl fc)), (st, .inl (cy 2, 32, .inr (.inl g1))), (se, .inl (cy 2, 16, .inr (.inl sf)))] ++ (ltail cy ea na fl rs1)) H := tl_subP hP [0, 1, 2, 3, 4, 5] rfl
      have hD9 : va_D A ([(tb, .inr (6, [.ref ro, .ref xp, wr, .int sv])), (ro, .inr (0, [.int mod, .ref ea, .int (nI ln)])), (xp, .inr (2, [.ref cd, .int (nI sz0), .ref st])), (cd, .inl (cy 0, n1, .inl fc)), (st, .inl (cy 2, 32, .inr (.inl g1))), (se, .inl (cy 2, 16, .inr (.inl sf)))] ++ (ltail cy ea na fl rs1)) := tl_subD hD [0, 1, 2, 3, 4, 5] (by decide) rfl
      refine W.widen (k := 0) (n := 0) (by omega) (by omega) ?_
      exact W.vret hx hb hr (fun t ht hW => ⟨⟨(rs1, g1), rfl, ⟨⟨hI2, hI3⟩, fun q9 => absurd c2 q9, fun _ => lpI_e hI4 (by omega)⟩, by rw [ht]; exact hP9, hD9⟩, hS.F ht⟩) hS.2.2 dX5_letGoBy_51
    · have hi : i < ln := pk_nle (by have h9 := hls.2.2.1; omega) c16
      refine lv_aload_n hx hb dX5_letGoBy_19 rfl (lv_at hl 1 rfl) ?_
      refine va_get (D := D) (ci := 6) (v := .ref ro) (C := RX5) (T := TX5) (N := 4) hx hb hts iX5 hown hK hP 0 rfl rfl 0 (by decide) (hts (.fieldLink RX5 12 "InterlockTables$Table" "rows" "Ljava/util/ArrayList;") (by decide +kernel)) (fun _ h9 => h9) rfl dX5_letGoBy_20 ?_
      refine lv_iload_n hx hb dX5_letGoBy_23 rfl (lv_at hl 0 rfl) ?_
      obtain ⟨pre, xx, post, hrs, hpl⟩ := foc_split (rs := rs1) (i := i) (by omega)
      obtain ⟨ra, ab, fi, fa⟩ := xx
      subst hrs
      replace hP : va_P D vwCl ([(tb, .inr (6, [.ref ro, .ref xp, wr, .int sv])), (ro, .inr (0, [.int mod, .ref ea, .int (nI ln)])), (xp, .inr (2, [.ref cd, .int (nI sz0), .ref st])), (cd, .inl (cy 0, n1, .inl fc)), (st, .inl (cy 2, 32, .inr (.inl g1))), (se, .inl (cy 2, 16, .inr (.inl sf))), (ea, .inl (cy 5, na, .inr (.inr (.inr (.inr fl))))), (ra, .inr (4, [.ref ab, .int (fi 1), .int (fi 2), .int (fi 3), .int (fi 4), .int (fi 5), .int (fi 6), .int (fi 7), .int (fi 8), .int (fi 9), .int (fi 10), .int (fi 11), .int (fi 12)])), (ab, .inl (cy 1, 8, .inl fa))] ++ (rpool cy (pre ++ post))) H := tl_Pp (foc_perm (X := [(tb, .inr (6, [.ref ro, .ref xp, wr, .int sv])), (ro, .inr (0, [.int mod, .ref ea, .int (nI ln)])), (xp, .inr (2, [.ref cd, .int (nI sz0), .ref st])), (cd, .inl (cy 0, n1, .inl fc)), (st, .inl (cy 2, 32, .inr (.inl g1))), (se, .inl (cy 2, 16, .inr (.inl sf)))])) hP
      replace hD : va_D A ([(tb, .inr (6, [.ref ro, .ref xp, wr, .int sv])), (ro, .inr (0, [.int mod, .ref ea, .int (nI ln)])), (xp, .inr (2, [.ref cd, .int (nI sz0), .ref st])), (cd, .inl (cy 0, n1, .inl fc)), (st, .inl (cy 2, 32, .inr (.inl g1))), (se, .inl (cy 2, 16, .inr (.inl sf))), (ea, .inl (cy 5, na, .inr (.inr (.inr (.inr fl))))), (ra, .inr (4, [.ref ab, .int (fi 1), .int (fi 2), .int (fi 3), .int (fi 4), .int (fi 5), .int (fi 6), .int (fi 7), .int (fi 8), .int (fi 9), .int (fi 10), .int (fi 11), .int (fi 12)])), (ab, .inl (cy 1, 8, .inl fa))] ++ (rpool cy (pre ++ post))) := tl_Dp (foc_perm (X := [(tb, .inr (6, [.ref ro, .ref xp, wr, .int sv])), (ro, .inr (0, [.int mod, .ref ea, .int (nI ln)])), (xp, .inr (2, [.ref cd, .int (nI sz0), .ref st])), (cd, .inl (cy 0, n1, .inl fc)), (st, .inl (cy 2, 32, .inr (.inl g1))), (se, .inl (cy 2, 16, .inr (.inl sf)))])) hD
      have hxi : rs[i]? = some (ra, ab, fi, fa) := lpI_x hI4 hpl
      obtain ⟨b9, c9, hb4, hb5, hbz9, hsg9, hv9⟩ := hev i _ hxi
      replace hb4 : fi 4 = nI b9 := hb4
      replace hb5 : fi 5 = nI (b9 + c9.length) := hb5
      refine pu_callq (va_runV (As := [.int (nI i)]) (rest := []) ⟨hx, hb, hml, hown, hts⟩ (c_get l D cy e ro mod ea ln na fl i ra (by have h9 := hI2.2.2.1; omega) (by rw [← hpl]; exact ls_at hI2)) (cwV 1 hts gX5_letGoBy_Jx4a65c_get_915e3 rfl rfl rfl (by decide +kernel) ⟨Nat.le_of_ble_eq_true rfl, Nat.le_of_ble_eq_true rfl⟩) (pu_preV hP hK hS hG [1, 6] rfl (q := (RJx4a65c, TJx4a65c, 3)) (ci := 0) (q0 := 1) rfl rfl) rfl rfl hl.1 rfl (lv_room (Nat.le_of_ble_eq_true rfl)) dX5_letGoBy_24 ⟨(Nat.le_of_ble_eq_true rfl), (Nat.le_of_ble_eq_true rfl)⟩) hP hS (fun H locs hP hS => ?_)
      have hP : va_P D vwCl ([(tb, .inr (6, [.ref ro, .ref xp, wr, .int sv])), (ro, .inr (0, [.int mod, .ref ea, .int (nI ln)])), (xp, .inr (2, [.ref cd, .int (nI sz0), .ref st])), (cd, .inl (cy 0, n1, .inl fc)), (st, .inl (cy 2, 32, .inr (.inl g1))), (se, .inl (cy 2, 16, .inr (.inl sf))), (ea, .inl (cy 5, na, .inr (.inr (.inr (.inr fl))))), (ra, .inr (4, [.ref ab, .int (fi 1), .int (fi 2), .int (fi 3), .int (fi 4), .int (fi 5), .int (fi 6), .int (fi 7), .int (fi 8), .int (fi 9), .int (fi 10), .int (fi 11), .int (fi 12)])), (ab, .inl (cy 1, 8, .inl fa))] ++ (rpool cy (pre ++ post))) H := hP
      refine va_castY (C := RX3) hx hb hown (hts (.classLink RX5 35 RX3) (by decide +kernel)) hG.gX.2.2.2.2.2.1 (va_recv hK hP (q := (RX3, TX3, 13)) (ci := 4) (q0 := 7) rfl rfl) dX5_letGoBy_27 ?_
      refine lv_astore (lv' := [(4, .ref ra), (3, .int (nI i)), (0, .ref tb), (1, .int k), (2, .ref se)]) hx hb dX5_letGoBy_30 hl (by decide) rfl (fun ls hl => ?_)
      refine lv_aload hx hb dX5_letGoBy_32 (lv_at hl 0 rfl) ?_
      refine lv_iload_n hx hb dX5_letGoBy_34 rfl (lv_at hl 3 rfl) ?_
      refine lv_aload_n hx hb dX5_letGoBy_35 rfl (lv_at hl 2 rfl) ?_
      refine lv_aload hx hb dX5_letGoBy_36 (lv_at hl 0 rfl) ?_
      refine lv_aload_n hx hb dX5_letGoBy_38 rfl (lv_at hl 4 rfl) ?_
      refine mt_calliQ (wr := [(ro, .inr (0, [.int mod, .ref ea, .int (nI ln)])), (ea, .inl (cy 5, na, .inr (.inr (.inr (.inr fl))))), (ab, .inl (cy 1, 8, .inl fa))]) (va_runV (As := [.ref ra, .ref se]) (rest := [.int k, .ref ra]) ⟨hx, hb, hml, hown, hts⟩ (c_Table_isOnF l D cy e tb ro xp wr sv cd sz0 st n1 fc g1 se sf ra ab (fi 1) (fi 2) (fi 3) (fi 4) (fi 5) (fi 6) (fi 7) (fi 8) (fi 9) (fi 10) (fi 11) (fi 12) b9 c9 (vv i) H.size hsz hn1 hb4 hb5 hsg9 hbz9 hv9) (cwV 2 hts gX5_letGoBy_X5_isOn rfl rfl rfl (by decide +kernel) ⟨Nat.le_of_ble_eq_true rfl, Nat.le_of_ble_eq_true rfl⟩) (mt_preV hP hD hK hS hA hG [0, 2, 3, 4, 5, 7] rfl (by decide) (q := (RX5, TX5, 4)) (ci := 6) (q0 := 0) rfl rfl) rfl rfl hl.1 rfl (lv_room (Nat.le_of_ble_eq_true rfl)) dX5_letGoBy_39 ⟨(Nat.le_of_ble_eq_true rfl), (Nat.le_of_ble_eq_true rfl)⟩) hP hD hS hA [0, 2, 3, 4, 5, 7] [1, 6, 8] rfl rfl rfl (by decide) (by decide) (fun r39 u H locs hw hP hD hS => ?_)
      obtain ⟨g2_39, rfl⟩ : ∃ z, z = u := ⟨_, rfl⟩
      have hP : va_P D vwCl ([(ro, .inr (0, [.int mod, .ref ea, .int (nI ln)])), (ea, .inl (cy 5, na, .inr (.inr (.inr (.inr fl))))), (ab, .inl (cy 1, 8, .inl fa)), (tb, .inr (6, [.ref ro, .ref xp, wr, .int sv])), (xp, .inr (2, [.ref cd, .int (nI sz0), .ref st])), (cd, .inl (cy 0, n1, .inl fc)), (st, .inl (cy 2, 32, .inr (.inl g2_39))), (se, .inl (cy 2, 16, .inr (.inl sf))), (ra, .inr (4, [.ref ab, .int (fi 1), .int (fi 2), .int (fi 3), .int (fi 4), .int (fi 5), .int (fi 6), .int (fi 7), .int (fi 8), .int (fi 9), .int (fi 10), .int (fi 11), .int (fi 12)]))] ++ (rpool cy (pre ++ post))) H := hP
      have hD : va_D A ([(ro, .inr (0, [.int mod, .ref ea, .int (nI ln)])), (ea, .inl (cy 5, na, .inr (.inr (.inr (.inr fl))))), (ab, .inl (cy 1, 8, .inl fa)), (tb, .inr (6, [.ref ro, .ref xp, wr, .int sv])), (xp, .inr (2, [.ref cd, .int (nI sz0), .ref st])), (cd, .inl (cy 0, n1, .inl fc)), (st, .inl (cy 2, 32, .inr (.inl g2_39))), (se, .inl (cy 2, 16, .inr (.inl sf))), (ra, .inr (4, [.ref ab, .int (fi 1), .int (fi 2), .int (fi 3), .int (fi 4), .int (fi 5), .int (fi 6), .int (fi 7), .int (fi 8), .int (fi 9), .int (fi 10), .int (fi 11), .int (fi 12)]))] ++ (rpool cy (pre ++ post))) := hD
      replace hw : r39 = kc_on (vv i) := hw
      refine W.widen (k := 0) (n := 0) (by omega) (by omega) ?_
      subst hw
      refine mt_callvQ (wr := [(ro, .inr (0, [.int mod, .ref ea, .int (nI ln)])), (ea, .inl (cy 5, na, .inr (.inr (.inr (.inr fl))))), (ab, .inl (cy 1, 8, .inl fa)), (tb, .inr (6, [.ref ro, .ref xp, wr, .int sv])), (xp, .inr (2, [.ref cd, .int (nI sz0), .ref st])), (cd, .inl (cy 0, n1, .inl fc)), (st, .inl (cy 2, 32, .inr (.inl g2_39))), (se, .inl (cy 2, 16, .inr (.inl sf)))]) (va_runV (As := [.int k, .int (kc_on (vv i))]) (rest := []) ⟨hx, hb, hml, hown, hts⟩ (c_Row_letGoByF l D cy e ra ab (fi 1) (fi 2) (fi 3) (fi 4) (fi 5) (fi 6) (fi 7) (fi 8) (fi 9) (fi 10) (fi 11) (fi 12) k (kc_on (vv i)) H.size ) (cwV 2 hts gX5_letGoBy_X3_letGoBy rfl rfl rfl (by decide +kernel) ⟨Nat.le_of_ble_eq_true rfl, Nat.le_of_ble_eq_true rfl⟩) (mt_preV hP hD hK hS hA hG [8] rfl (by decide) (q := (RX3, TX3, 13)) (ci := 4) (q0 := 8) rfl rfl) rfl rfl hl.1 rfl (lv_room (Nat.le_of_ble_eq_true rfl)) dX5_letGoBy_42 ⟨(Nat.le_of_ble_eq_true rfl), (Nat.le_of_ble_eq_true rfl)⟩) hP hD hS hA [8] [0, 1, 2, 3, 4, 5, 6, 7] rfl rfl rfl (by decide) (by decide) (fun u H locs hw hP hD hS => ?_)
      obtain ⟨y9_42, y10_42, y11_42⟩ := u
      have hP : va_P D vwCl ([(ro, .inr (0, [.int mod, .ref ea, .int (nI ln)])), (ea, .inl (cy 5, na, .inr (.inr (.inr (.inr fl))))), (ab, .inl (cy 1, 8, .inl fa)), (tb, .inr (6, [.ref ro, .ref xp, wr, .int sv])), (xp, .inr (2, [.ref cd, .int (nI sz0), .ref st])), (cd, .inl (cy 0, n1, .inl fc)), (st, .inl (cy 2, 32, .inr (.inl g2_39))), (se, .inl (cy 2, 16, .inr (.inl sf))), (ra, .inr (4, [.ref ab, .int (fi 1), .int (fi 2), .int (fi 3), .int (fi 4), .int (fi 5), .int (fi 6), .int (fi 7), .int (fi 8), .int y9_42, .int y10_42, .int y11_42, .int (fi 12)]))] ++ (rpool cy (pre ++ post))) H := hP
      have hD : va_D A ([(ro, .inr (0, [.int mod, .ref ea, .int (nI ln)])), (ea, .inl (cy 5, na, .inr (.inr (.inr (.inr fl))))), (ab, .inl (cy 1, 8, .inl fa)), (tb, .inr (6, [.ref ro, .ref xp, wr, .int sv])), (xp, .inr (2, [.ref cd, .int (nI sz0), .ref st])), (cd, .inl (cy 0, n1, .inl fc)), (st, .inl (cy 2, 32, .inr (.inl g2_39))), (se, .inl (cy 2, 16, .inr (.inl sf))), (ra, .inr (4, [.ref ab, .int (fi 1), .int (fi 2), .int (fi 3), .int (fi 4), .int (fi 5), .int (fi 6), .int (fi 7), .int (fi 8), .int y9_42, .int y10_42, .int y11_42, .int (fi 12)]))] ++ (rpool cy (pre ++ post))) := hD
      replace hw : y9_42 = kc_ct (kc_on (vv i)) k (fi 9) ∧ y11_42 = kc_ps k (fi 11) ∧ y10_42 = kc_lt (kc_on (vv i)) (fi 8) (fi 7) (kc_ct (kc_on (vv i)) k (fi 9)) (fi 10) := hw
      refine W.widen (k := 0) (n := 0) (by omega) (by omega) ?_
      have hw42 := hw
      refine lv_iinc (v := nI (i + 1)) (lv' := [(3, .int (nI (i + 1))), (4, .ref ra), (0, .ref tb), (1, .int k), (2, .ref se)]) hx hb dX5_letGoBy_45 hl (k := 1) rfl (nI_1 i) (by decide) rfl (fun ls hl => ?_)
      refine lv_goto (tgt := 8) hx hb dX5_letGoBy_48 (by decide) ?_
      replace hP : va_P D vwCl ([(ro, .inr (0, [.int mod, .ref ea, .int (nI ln)])), (tb, .inr (6, [.ref ro, .ref xp, wr, .int sv])), (xp, .inr (2, [.ref cd, .int (nI sz0), .ref st])), (cd, .inl (cy 0, n1, .inl fc)), (st, .inl (cy 2, 32, .inr (.inl g2_39))), (se, .inl (cy 2, 16, .inr (.inl sf))), (ea, .inl (cy 5, na, .inr (.inr (.inr (.inr fl))))), (ra, .inr (4, [.ref ab, .int (fi 1), .int (fi 2), .int (fi 3), .int (fi 4), .int (fi 5), .int (fi 6), .int (fi 7), .int (fi 8), .int y9_42, .int y10_42, .int y11_42, .int (fi 12)])), (ab, .inl (cy 1, 8, .inl fa))] ++ (rpool cy (pre ++ post))) H := tl_subP hP [0, 3, 4, 5, 6, 7, 1, 8, 2] rfl
      replace hP : va_P D vwCl ([(ro, .inr (0, [.int mod, .ref ea, .int (nI ln)])), (tb, .inr (6, [.ref ro, .ref xp, wr, .int sv])), (xp, .inr (2, [.ref cd, .int (nI sz0), .ref st])), (cd, .inl (cy 0, n1, .inl fc)), (st, .inl (cy 2, 32, .inr (.inl g2_39))), (se, .inl (cy 2, 16, .inr (.inl sf)))] ++ (ltail cy ea na fl (pre ++ (ra, ab, (fun k => [0, fi 1, fi 2, fi 3, fi 4, fi 5, fi 6, fi 7, fi 8, y9_42, y10_42, y11_42, fi 12].getD k 0), fa) :: post))) H := tl_Pp (foc_perm (X := [(ro, .inr (0, [.int mod, .ref ea, .int (nI ln)])), (tb, .inr (6, [.ref ro, .ref xp, wr, .int sv])), (xp, .inr (2, [.ref cd, .int (nI sz0), .ref st])), (cd, .inl (cy 0, n1, .inl fc)), (st, .inl (cy 2, 32, .inr (.inl g2_39))), (se, .inl (cy 2, 16, .inr (.inl sf)))]) (x := (ra, ab, (fun k => [0, fi 1, fi 2, fi 3, fi 4, fi 5, fi 6, fi 7, fi 8, y9_42, y10_42, y11_42, fi 12].getD k 0), fa))).symm hP
      replace hD : va_D A ([(ro, .inr (0, [.int mod, .ref ea, .int (nI ln)])), (tb, .inr (6, [.ref ro, .ref xp, wr, .int sv])), (xp, .inr (2, [.ref cd, .int (nI sz0), .ref st])), (cd, .inl (cy 0, n1, .inl fc)), (st, .inl (cy 2, 32, .inr (.inl g2_39))), (se, .inl (cy 2, 16, .inr (.inl sf))), (ea, .inl (cy 5, na, .inr (.inr (.inr (.inr fl))))), (ra, .inr (4, [.ref ab, .int (fi 1), .int (fi 2), .int (fi 3), .int (fi 4), .int (fi 5), .int (fi 6), .int (fi 7), .int (fi 8), .int y9_42, .int y10_42, .int y11_42, .int (fi 12)])), (ab, .inl (cy 1, 8, .inl fa))] ++ (rpool cy (pre ++ post))) := tl_subD hD [0, 3, 4, 5, 6, 7, 1, 8, 2] (by decide) rfl
      replace hD : va_D A ([(ro, .inr (0, [.int mod, .ref ea, .int (nI ln)])), (tb, .inr (6, [.ref ro, .ref xp, wr, .int sv])), (xp, .inr (2, [.ref cd, .int (nI sz0), .ref st])), (cd, .inl (cy 0, n1, .inl fc)), (st, .inl (cy 2, 32, .inr (.inl g2_39))), (se, .inl (cy 2, 16, .inr (.inl sf)))] ++ (ltail cy ea na fl (pre ++ (ra, ab, (fun k => [0, fi 1, fi 2, fi 3, fi 4, fi 5, fi 6, fi 7, fi 8, y9_42, y10_42, y11_42, fi 12].getD k 0), fa) :: post))) := tl_Dp (foc_perm (X := [(ro, .inr (0, [.int mod, .ref ea, .int (nI ln)])), (tb, .inr (6, [.ref ro, .ref xp, wr, .int sv])), (xp, .inr (2, [.ref cd, .int (nI sz0), .ref st])), (cd, .inl (cy 0, n1, .inl fc)), (st, .inl (cy 2, 32, .inr (.inl g2_39))), (se, .inl (cy 2, 16, .inr (.inl sf)))]) (x := (ra, ab, (fun k => [0, fi 1, fi 2, fi 3, fi 4, fi 5, fi 6, fi 7, fi 8, y9_42, y10_42, y11_42, fi 12].getD k 0), fa))).symm hD
      exact ih8 ((i + 1), (pre ++ (ra, ab, (fun k => [0, fi 1, fi 2, fi 3, fi 4, fi 5, fi 6, fi 7, fi 8, y9_42, y10_42, y11_42, fi 12].getD k 0), fa) :: post), g2_39) _ _ ls ⟨tl_subP hP [1, 0, 2, 3, 4, 5] rfl, tl_subD hD [1, 0, 2, 3, 4, 5] (by decide) rfl, hS, lv_sub hl [0, 2, 3, 4] rfl, ⟨by omega, ls_set hI2 rfl, ls_len.trans hI3, lpI_s hI4 hpl rfl ⟨⟨rfl, rfl, rfl, rfl, rfl, rfl, rfl, rfl⟩, rfl, hw42.1, hw42.2.1, hw42.2.2⟩⟩⟩ (by (try dsimp only); omega)
  · have hP9 : va_P D vwCl ([(tb, .inr (6, [.ref ro, .ref xp, wr, .int sv])), (ro, .inr (0, [.int mod, .ref ea, .int (nI ln)])), (xp, .inr (2, [.ref cd, .int (nI sz0), .ref st])), (cd, .inl (cy 0, n1, .inl fc)), (st, .inl (cy 2, 32, .inr (.inl g))), (se, .inl (cy 2, 16, .inr (.inl sf)))] ++ (ltail cy ea na fl rs)) s.heap := tl_subP hP [0, 1, 2, 3, 4, 5] rfl
    have hD9 : va_D A ([(tb, .inr (6, [.ref ro, .ref xp, wr, .int sv])), (ro, .inr (0, [.int mod, .ref ea, .int (nI ln)])), (xp, .inr (2, [.ref cd, .int (nI sz0), .ref st])), (cd, .inl (cy 0, n1, .inl fc)), (st, .inl (cy 2, 32, .inr (.inl g))), (se, .inl (cy 2, 16, .inr (.inl sf)))] ++ (ltail cy ea na fl rs)) := tl_subD hD [0, 1, 2, 3, 4, 5] (by decide) rfl
    refine W.widen (k := 0) (n := 0) (by omega) (by omega) ?_
    exact W.vret hx hb hr (fun t ht hW => ⟨⟨(rs, g), rfl, ⟨⟨hls, hln⟩, fun _ => rfl, fun q9 => absurd q9 c2⟩, by rw [ht]; exact hP9, hD9⟩, hS.F ht⟩) hS.2.2 dX5_letGoBy_5

set_option maxHeartbeats 4000000 in
set_option maxRecDepth 100000 in
theorem c_Table_firstToBar (l : Launch) (D : va_G) (cy : Nat → ClassId) (e : Nat → Nat)  (tb : Nat) (ro : Nat) (xp : Nat) (wr : Value) (sv : Int32) (cd : Nat) (sz0 : Nat) (st : Nat) (n1 : Nat) (fc : Nat → Int32) (g : Nat → Int64) (se : Nat) (sf : Nat → Int64) (mod : Int32) (ea : Nat) (ln : Nat) (na : Nat) (fl : Nat → Option Nat) (rs : List rwT) (vv : Nat → Int64) (kn : Nat) (sz : Nat) (hsz : sz0 ≤ n1) (hn1 : n1 < 65536) (hls : lsok e ea na fl rs) (hna : na ≤ 60) (hln : rs.length = ln) (hev : cev rs fc sz0 sf vv) (hkn : kn < 32) : Met l yX5_firstToBar wsX5_firstToBar ({ frames := 4, cells := 0, slots := 0, locals := 94 }) (va_Pc [.ref tb, .int (nI kn), .ref se] (mt_B D cy e ([(tb, .inr (6, [.ref ro, .ref xp, wr, .int sv])), (ro, .inr (0, [.int mod, .ref ea, .int (nI ln)])), (xp, .inr (2, [.ref cd, .int (nI sz0), .ref st])), (cd, .inl (cy 0, n1, .inl fc)), (st, .inl (cy 2, 32, .inr (.inl g))), (se, .inl (cy 2, 16, .inr (.inl sf)))] ++ (ltail cy ea na fl rs)) sz)) (va_Qi (fun (r : Int32) (u : List rwT × (Nat → Int64)) => match u with | (rs2, g2) => (lsok e ea na fl rs2 ∧ rs2.length = ln) ∧ rs2 = rs ∧ fp_first ln (barC rs vv kn) r) (mt_Q D (fun (u : List rwT × (Nat → Int64)) => match u with | (rs2, g2) => ([(tb, .inr (6, [.ref ro, .ref xp, wr, .int sv])), (ro, .inr (0, [.int mod, .ref ea, .int (nI ln)])), (xp, .inr (2, [.ref cd, .int (nI sz0), .ref st])), (cd, .inl (cy 0, n1, .inl fc)), (st, .inl (cy 2, 32, .inr (.inl g2))), (se, .inl (cy 2, 16, .inr (.inl sf)))] ++ (ltail cy ea na fl rs2))) (va_A ([(tb, .inr (6, [.ref ro, .ref xp, wr, .int sv])), (ro, .inr (0, [.int mod, .ref ea, .int (nI ln)])), (xp, .inr (2, [.ref cd, .int (nI sz0), .ref st])), (cd, .inl (cy 0, n1, .inl fc)), (st, .inl (cy 2, 32, .inr (.inl g))), (se, .inl (cy 2, 16, .inr (.inl sf)))] ++ (ltail cy ea na fl rs)) sz)) (va_A ([(tb, .inr (6, [.ref ro, .ref xp, wr, .int sv])), (ro, .inr (0, [.int mod, .ref ea, .int (nI ln)])), (xp, .inr (2, [.ref cd, .int (nI sz0), .ref st])), (cd, .inl (cy 0, n1, .inl fc)), (st, .inl (cy 2, 32, .inr (.inl g))), (se, .inl (cy 2, 16, .inr (.inl sf)))] ++ (ltail cy ea na fl rs)) sz)) (0) (0) (va_A ([(tb, .inr (6, [.ref ro, .ref xp, wr, .int sv])), (ro, .inr (0, [.int mod, .ref ea, .int (nI ln)])), (xp, .inr (2, [.ref cd, .int (nI sz0), .ref st])), (cd, .inl (cy 0, n1, .inl fc)), (st, .inl (cy 2, 32, .inr (.inl g))), (se, .inl (cy 2, 16, .inr (.inl sf)))] ++ (ltail cy ea na fl rs)) sz) := by
  refine Met.ofW (cc := cX5_firstToBar) (maxL := 5) (ret := (some .int)) (by decide) rfl ?_
  intro p ev s m args below meth c s₁ B hml hv
  obtain ⟨rfl, hsz, hP, hK, hD0, hG⟩ := hv
  have hx := B.exec
  have hb := B.bytes
  have hr := B.returns
  have hts := atoms_spec (ws := wsX5_firstToBar) B.pre
  have hown : s.vm.findClass RX5 = some m.cls := findClass_of_methodNamed B.named
  have hlocks := B.notSynchronized
  subst hsz
  have hD := hD0.self (sz := s.heap.size)
  generalize hAe : va_A ([(tb, .inr (6, [.ref ro, .ref xp, wr, .int sv])), (ro, .inr (0, [.int mod, .ref ea, .int (nI ln)])), (xp, .inr (2, [.ref cd, .int (nI sz0), .ref st])), (cd, .inl (cy 0, n1, .inl fc)), (st, .inl (cy 2, 32, .inr (.inl g))), (se, .inl (cy 2, 16, .inr (.inl sf)))] ++ (ltail cy ea na fl rs)) s.heap.size = A at hD hG ⊢
  have hA : ∀ q : Nat, s.heap.size ≤ q → A q := fun q h => by rw [← hAe]; exact Or.inr h
  have hS : va_S A s.heap s.heap [] := va_S.rf
  have hP : va_P D vwCl ([(tb, .inr (6, [.ref ro, .ref xp, wr, .int sv])), (ro, .inr (0, [.int mod, .ref ea, .int (nI ln)])), (xp, .inr (2, [.ref cd, .int (nI sz0), .ref st])), (cd, .inl (cy 0, n1, .inl fc)), (st, .inl (cy 2, 32, .inr (.inl g))), (se, .inl (cy 2, 16, .inr (.inl sf)))] ++ (ltail cy ea na fl rs)) s.heap := hP
  have iX5 : ∀ w ∈ wsX50, w ∈ wsX5_firstToBar := fun w h => List.mem_cons_of_mem _ (List.mem_append_left _ (List.mem_append_left _ (List.mem_append_left _ (List.mem_append_right _ h))))
  have iJx4a65c : ∀ w ∈ wsJx4a65c0, w ∈ wsX5_firstToBar := fun w h => List.mem_cons_of_mem _ (List.mem_append_left _ (List.mem_append_left _ (List.mem_append_right _ h)))
  have iX3 : ∀ w ∈ wsX30, w ∈ wsX5_firstToBar := fun w h => List.mem_cons_of_mem _ (List.mem_append_left _ (List.mem_append_right _ h))
  have iX1 : ∀ w ∈ wsX10, w ∈ wsX5_firstToBar := fun w h => List.mem_cons_of_mem _ (List.mem_append_right _ h)
  have hl := lv_entry ([.ref tb, .int (nI kn), .ref se]) (n := 5) (Nat.le_of_ble_eq_true rfl)
  rw [lg_entry_eq]
  generalize (lg_sl ([.ref tb, .int (nI kn), .ref se]) ++ List.replicate (5 - (lg_sl ([.ref tb, .int (nI kn), .ref se])).length) Slot.unset).toArray = ls at hl ⊢
  have hl : lv_has ls 5 [(0, .ref tb), (1, .int (nI kn)), (2, .ref se)] := hl
  refine lv_iconst (v := 0) hx hb dX5_firstToBar_0 (by decide +kernel) ?_
  refine lv_topi (fun x_1 ex_1 => ?_)
  obtain rfl : x_1 = nI 0 := by rw [ex_1]; exact nI_0.symm
  refine lv_istore_n (lv' := [(3, .int (nI 0)), (0, .ref tb), (1, .int (nI kn)), (2, .ref se)]) hx hb dX5_firstToBar_1 rfl hl (by decide) rfl (fun ls hl => ?_)
  refine lp_W (σ := Nat × List rwT × (Nat → Int64)) (Wf := fun H locs ls => W p l ev _ s m _ below meth c H locs (0) (0) _ (F0 m 2 ls [])) (fun zz9 H locs ls => match zz9 with | (i, rs1, g1) => va_P D vwCl ([(tb, .inr (6, [.ref ro, .ref xp, wr, .int sv])), (ro, .inr (0, [.int mod, .ref ea, .int (nI ln)])), (xp, .inr (2, [.ref cd, .int (nI sz0), .ref st])), (cd, .inl (cy 0, n1, .inl fc)), (st, .inl (cy 2, 32, .inr (.inl g1))), (se, .inl (cy 2, 16, .inr (.inl sf)))] ++ (ltail cy ea na fl rs1)) H ∧ va_D A ([(tb, .inr (6, [.ref ro, .ref xp, wr, .int sv])), (ro, .inr (0, [.int mod, .ref ea, .int (nI ln)])), (xp, .inr (2, [.ref cd, .int (nI sz0), .ref st])), (cd, .inl (cy 0, n1, .inl fc)), (st, .inl (cy 2, 32, .inr (.inl g1))), (se, .inl (cy 2, 16, .inr (.inl sf)))] ++ (ltail cy ea na fl rs1)) ∧ va_S A s.heap H locs ∧ lv_has ls 5 [(3, .int (nI i)), (0, .ref tb), (1, .int (nI kn)), (2, .ref se)] ∧ (i ≤ ln ∧ lsok e ea na fl rs1 ∧ rs1.length = ln ∧ rs1 = rs ∧ ∀ j, j < i → ¬ barC rs vv kn j)) (fun zz9 => match zz9 with | (i, rs1, g1) => ln - i) ?_ (0, rs, g) _ _ ls ⟨hP, hD, hS, lv_sub hl [0, 1, 2, 3] rfl, ⟨Nat.zero_le _, hls, hln, rfl, fun j hj => absurd hj (Nat.not_lt_zero _)⟩⟩
  intro zz9 H locs ls hI ih
  obtain ⟨i, rs1, g1⟩ := zz9
  obtain ⟨hP, hD, hS, hl, hI⟩ := hI
  have ih2 := ih
  have hI2 := hI
  have hP : va_P D vwCl ([(tb, .inr (6, [.ref ro, .ref xp, wr, .int sv])), (ro, .inr (0, [.int mod, .ref ea, .int (nI ln)])), (xp, .inr (2, [.ref cd, .int (nI sz0), .ref st])), (cd, .inl (cy 0, n1, .inl fc)), (st, .inl (cy 2, 32, .inr (.inl g1))), (se, .inl (cy 2, 16, .inr (.inl sf)))] ++ (ltail cy ea na fl rs1)) H := hP
  have hD : va_D A ([(tb, .inr (6, [.ref ro, .ref xp, wr, .int sv])), (ro, .inr (0, [.int mod, .ref ea, .int (nI ln)])), (xp, .inr (2, [.ref cd, .int (nI sz0), .ref st])), (cd, .inl (cy 0, n1, .inl fc)), (st, .inl (cy 2, 32, .inr (.inl g1))), (se, .inl (cy 2, 16, .inr (.inl sf)))] ++ (ltail cy ea na fl rs1)) := hD
  have hl : lv_has ls 5 [(3, .int (nI i)), (0, .ref tb), (1, .int (nI kn)), (2, .ref se)] := hl
  obtain ⟨hI1, hI2, hI3, hI4, hI5⟩ := hI
  refine lv_iload_n hx hb dX5_firstToBar_2 rfl (lv_at hl 0 rfl) ?_
  refine lv_aload_n hx hb dX5_firstToBar_3 rfl (lv_at hl 1 rfl) ?_
  refine va_get (D := D) (ci := 6) (v := .ref ro) (C := RX5) (T := TX5) (N := 4) hx hb hts iX5 hown hK hP 0 rfl rfl 0 (by decide) (hts (.fieldLink RX5 12 "InterlockTables$Table" "rows" "Ljava/util/ArrayList;") (by decide +kernel)) (fun _ h9 => h9) rfl dX5_firstToBar_4 ?_
  refine pu_calli (va_runV (As := []) (rest := [.int (nI i)]) ⟨hx, hb, hml, hown, hts⟩ (c_AL_size l D cy e ro mod (.ref ea) (nI ln) ) (cwV 0 hts gX5_firstToBar_Jx4a65c_size_8abf5 rfl rfl rfl (by decide +kernel) ⟨Nat.le_of_ble_eq_true rfl, Nat.le_of_ble_eq_true rfl⟩) (pu_preV hP hK hS hG [1] rfl (q := (RJx4a65c, TJx4a65c, 3)) (ci := 0) (q0 := 1) rfl rfl) rfl rfl hl.1 rfl (lv_room (Nat.le_of_ble_eq_true rfl)) dX5_firstToBar_7 ⟨(Nat.le_of_ble_eq_true rfl), (Nat.le_of_ble_eq_true rfl)⟩) hP hS (fun H locs hP hS => ?_)
  have hP : va_P D vwCl ([(tb, .inr (6, [.ref ro, .ref xp, wr, .int sv])), (ro, .inr (0, [.int mod, .ref ea, .int (nI ln)])), (xp, .inr (2, [.ref cd, .int (nI sz0), .ref st])), (cd, .inl (cy 0, n1, .inl fc)), (st, .inl (cy 2, 32, .inr (.inl g1))), (se, .inl (cy 2, 16, .inr (.inl sf)))] ++ (ltail cy ea na fl rs1)) H := hP
  refine lv_icmp_ge (tgt := 60) hx hb dX5_firstToBar_10 (by decide) (fun c10 => ?_) (fun c10 => ?_)
  · have hge : ln ≤ i := (nI_leI (by have h9 := hls.2.2.1; omega) (by have h9 := hls.2.2.1; omega)).mp c10
    refine lv_iconst (v := 0) hx hb dX5_firstToBar_60 (by decide +kernel) ?_
    have hP9 : va_P D vwCl ([(tb, .inr (6, [.ref ro, .ref xp, wr, .int sv])), (ro, .inr (0, [.int mod, .ref ea, .int (nI ln)])), (xp, .inr (2, [.ref cd, .int (nI sz0), .ref st])), (cd, .inl (cy 0, n1, .inl fc)), (st, .inl (cy 2, 32, .inr (.inl g1))), (se, .inl (cy 2, 16, .inr (.inl sf)))] ++ (ltail cy ea na fl rs1)) H := tl_subP hP [0, 1, 2, 3, 4, 5] rfl
    have hD9 : va_D A ([(tb, .inr (6, [.ref ro, .ref xp, wr, .int sv])), (ro, .inr (0, [.int mod, .ref ea, .int (nI ln)])), (xp, .inr (2, [.ref cd, .int (nI sz0), .ref st])), (cd, .inl (cy 0, n1, .inl fc)), (st, .inl (cy 2, 32, .inr (.inl g1))), (se, .inl (cy 2, 16, .inr (.inl sf)))] ++ (ltail cy ea na fl rs1)) := tl_subD hD [0, 1, 2, 3, 4, 5] (by decide) rfl
    refine W.widen (k := 0) (n := 0) (by omega) (by omega) ?_
    exact W.iret hx hb hr (fun t ht hW => ⟨⟨_, (rs1, g1), rfl, ⟨⟨hI2, hI3⟩, hI4, Or.inl ⟨rfl, fun j hj => hI5 j (by omega)⟩⟩, by rw [ht]; exact hP9, hD9⟩, hS.F ht⟩) hS.2.2 dX5_firstToBar_61
  · have hi : i < ln := pk_nle (by have h9 := hls.2.2.1; omega) c10
    refine lv_aload_n hx hb dX5_firstToBar_13 rfl (lv_at hl 1 rfl) ?_
    refine va_get (D := D) (ci := 6) (v := .ref ro) (C := RX5) (T := TX5) (N := 4) hx hb hts iX5 hown hK hP 0 rfl rfl 0 (by decide) (hts (.fieldLink RX5 12 "InterlockTables$Table" "rows" "Ljava/util/ArrayList;") (by decide +kernel)) (fun _ h9 => h9) rfl dX5_firstToBar_14 ?_
    refine lv_iload_n hx hb dX5_firstToBar_17 rfl (lv_at hl 0 rfl) ?_
    obtain ⟨pre, xx, post, hrs, hpl⟩ := foc_split (rs := rs1) (i := i) (by omega)
    obtain ⟨ra, ab, fi, fa⟩ := xx
    subst hrs
    replace hP : va_P D vwCl ([(tb, .inr (6, [.ref ro, .ref xp, wr, .int sv])), (ro, .inr (0, [.int mod, .ref ea, .int (nI ln)])), (xp, .inr (2, [.ref cd, .int (nI sz0), .ref st])), (cd, .inl (cy 0, n1, .inl fc)), (st, .inl (cy 2, 32, .inr (.inl g1))), (se, .inl (cy 2, 16, .inr (.inl sf))), (ea, .inl (cy 5, na, .inr (.inr (.inr (.inr fl))))), (ra, .inr (4, [.ref ab, .int (fi 1), .int (fi 2), .int (fi 3), .int (fi 4), .int (fi 5), .int (fi 6), .int (fi 7), .int (fi 8), .int (fi 9), .int (fi 10), .int (fi 11), .int (fi 12)])), (ab, .inl (cy 1, 8, .inl fa))] ++ (rpool cy (pre ++ post))) H := tl_Pp (foc_perm (X := [(tb, .inr (6, [.ref ro, .ref xp, wr, .int sv])), (ro, .inr (0, [.int mod, .ref ea, .int (nI ln)])), (xp, .inr (2, [.ref cd, .int (nI sz0), .ref st])), (cd, .inl (cy 0, n1, .inl fc)), (st, .inl (cy 2, 32, .inr (.inl g1))), (se, .inl (cy 2, 16, .inr (.inl sf)))])) hP
    replace hD : va_D A ([(tb, .inr (6, [.ref ro, .ref xp, wr, .int sv])), (ro, .inr (0, [.int mod, .ref ea, .int (nI ln)])), (xp, .inr (2, [.ref cd, .int (nI sz0), .ref st])), (cd, .inl (cy 0, n1, .inl fc)), (st, .inl (cy 2, 32, .inr (.inl g1))), (se, .inl (cy 2, 16, .inr (.inl sf))), (ea, .inl (cy 5, na, .inr (.inr (.inr (.inr fl))))), (ra, .inr (4, [.ref ab, .int (fi 1), .int (fi 2), .int (fi 3), .int (fi 4), .int (fi 5), .int (fi 6), .int (fi 7), .int (fi 8), .int (fi 9), .int (fi 10), .int (fi 11), .int (fi 12)])), (ab, .inl (cy 1, 8, .inl fa))] ++ (rpool cy (pre ++ post))) := tl_Dp (foc_perm (X := [(tb, .inr (6, [.ref ro, .ref xp, wr, .int sv])), (ro, .inr (0, [.int mod, .ref ea, .int (nI ln)])), (xp, .inr (2, [.ref cd, .int (nI sz0), .ref st])), (cd, .inl (cy 0, n1, .inl fc)), (st, .inl (cy 2, 32, .inr (.inl g1))), (se, .inl (cy 2, 16, .inr (.inl sf)))])) hD
    have hxi : rs[i]? = some (ra, ab, fi, fa) := by rw [← hI4, ← hpl]; exact mid_at
    obtain ⟨b9, c9, hb4, hb5, hbz9, hsg9, hv9⟩ := hev i _ hxi
    replace hb4 : fi 4 = nI b9 := hb4
    replace hb5 : fi 5 = nI (b9 + c9.length) := hb5
    refine pu_callq (va_runV (As := [.int (nI i)]) (rest := []) ⟨hx, hb, hml, hown, hts⟩ (c_get l D cy e ro mod ea ln na fl i ra (by have h9 := hI2.2.2.1; omega) (by rw [← hpl]; exact ls_at hI2)) (cwV 1 hts gX5_firstToBar_Jx4a65c_get_915e3 rfl rfl rfl (by decide +kernel) ⟨Nat.le_of_ble_eq_true rfl, Nat.le_of_ble_eq_true rfl⟩) (pu_preV hP hK hS hG [1, 6] rfl (q := (RJx4a65c, TJx4a65c, 3)) (ci := 0) (q0 := 1) rfl rfl) rfl rfl hl.1 rfl (lv_room (Nat.le_of_ble_eq_true rfl)) dX5_firstToBar_18 ⟨(Nat.le_of_ble_eq_true rfl), (Nat.le_of_ble_eq_true rfl)⟩) hP hS (fun H locs hP hS => ?_)
    have hP : va_P D vwCl ([(tb, .inr (6, [.ref ro, .ref xp, wr, .int sv])), (ro, .inr (0, [.int mod, .ref ea, .int (nI ln)])), (xp, .inr (2, [.ref cd, .int (nI sz0), .ref st])), (cd, .inl (cy 0, n1, .inl fc)), (st, .inl (cy 2, 32, .inr (.inl g1))), (se, .inl (cy 2, 16, .inr (.inl sf))), (ea, .inl (cy 5, na, .inr (.inr (.inr (.inr fl))))), (ra, .inr (4, [.ref ab, .int (fi 1), .int (fi 2), .int (fi 3), .int (fi 4), .int (fi 5), .int (fi 6), .int (fi 7), .int (fi 8), .int (fi 9), .int (fi 10), .int (fi 11), .int (fi 12)])), (ab, .inl (cy 1, 8, .inl fa))] ++ (rpool cy (pre ++ post))) H := hP
    refine va_castY (C := RX3) hx hb hown (hts (.classLink RX5 35 RX3) (by decide +kernel)) hG.gX.2.2.2.2.2.1 (va_recv hK hP (q := (RX3, TX3, 13)) (ci := 4) (q0 := 7) rfl rfl) dX5_firstToBar_21 ?_
    refine lv_astore (lv' := [(4, .ref ra), (3, .int (nI i)), (0, .ref tb), (1, .int (nI kn)), (2, .ref se)]) hx hb dX5_firstToBar_24 hl (by decide) rfl (fun ls hl => ?_)
    refine lv_aload hx hb dX5_firstToBar_26 (lv_at hl 0 rfl) ?_
    refine lv_iload_n hx hb dX5_firstToBar_28 rfl (lv_at hl 3 rfl) ?_
    refine pu_calli (va_runV (As := [.int (nI kn)]) (rest := []) ⟨hx, hb, hml, hown, hts⟩ (c_Row_hasActF l D cy e ra ab (fi 1) (fi 2) (fi 3) (fi 4) (fi 5) (fi 6) (fi 7) (fi 8) (fi 9) (fi 10) (fi 11) (fi 12) kn hkn) (cwV 1 hts gX5_firstToBar_X3_hasAct rfl rfl rfl (by decide +kernel) ⟨Nat.le_of_ble_eq_true rfl, Nat.le_of_ble_eq_true rfl⟩) (pu_preV hP hK hS hG [7] rfl (q := (RX3, TX3, 13)) (ci := 4) (q0 := 7) rfl rfl) rfl rfl hl.1 rfl (lv_room (Nat.le_of_ble_eq_true rfl)) dX5_firstToBar_29 ⟨(Nat.le_of_ble_eq_true rfl), (Nat.le_of_ble_eq_true rfl)⟩) hP hS (fun H locs hP hS => ?_)
    have hP : va_P D vwCl ([(tb, .inr (6, [.ref ro, .ref xp, wr, .int sv])), (ro, .inr (0, [.int mod, .ref ea, .int (nI ln)])), (xp, .inr (2, [.ref cd, .int (nI sz0), .ref st])), (cd, .inl (cy 0, n1, .inl fc)), (st, .inl (cy 2, 32, .inr (.inl g1))), (se, .inl (cy 2, 16, .inr (.inl sf))), (ea, .inl (cy 5, na, .inr (.inr (.inr (.inr fl))))), (ra, .inr (4, [.ref ab, .int (fi 1), .int (fi 2), .int (fi 3), .int (fi 4), .int (fi 5), .int (fi 6), .int (fi 7), .int (fi 8), .int (fi 9), .int (fi 10), .int (fi 11), .int (fi 12)])), (ab, .inl (cy 1, 8, .inl fa))] ++ (rpool cy (pre ++ post))) H := hP
    refine lv_if_eq (tgt := 54) hx hb dX5_firstToBar_32 (by decide) (fun c32 => ?_) (fun c32 => ?_)
    · refine lv_iinc (v := nI (i + 1)) (lv' := [(3, .int (nI (i + 1))), (4, .ref ra), (0, .ref tb), (1, .int (nI kn)), (2, .ref se)]) hx hb dX5_firstToBar_54 hl (k := 1) rfl (nI_1 i) (by decide) rfl (fun ls hl => ?_)
      refine lv_goto (tgt := 2) hx hb dX5_firstToBar_57 (by decide) ?_
      replace hP : va_P D vwCl ([(tb, .inr (6, [.ref ro, .ref xp, wr, .int sv])), (ro, .inr (0, [.int mod, .ref ea, .int (nI ln)])), (xp, .inr (2, [.ref cd, .int (nI sz0), .ref st])), (cd, .inl (cy 0, n1, .inl fc)), (st, .inl (cy 2, 32, .inr (.inl g1))), (se, .inl (cy 2, 16, .inr (.inl sf))), (ea, .inl (cy 5, na, .inr (.inr (.inr (.inr fl))))), (ra, .inr (4, [.ref ab, .int (fi 1), .int (fi 2), .int (fi 3), .int (fi 4), .int (fi 5), .int (fi 6), .int (fi 7), .int (fi 8), .int (fi 9), .int (fi 10), .int (fi 11), .int (fi 12)])), (ab, .inl (cy 1, 8, .inl fa))] ++ (rpool cy (pre ++ post))) H := tl_subP hP [0, 1, 2, 3, 4, 5, 6, 7, 8] rfl
      replace hP : va_P D vwCl ([(tb, .inr (6, [.ref ro, .ref xp, wr, .int sv])), (ro, .inr (0, [.int mod, .ref ea, .int (nI ln)])), (xp, .inr (2, [.ref cd, .int (nI sz0), .ref st])), (cd, .inl (cy 0, n1, .inl fc)), (st, .inl (cy 2, 32, .inr (.inl g1))), (se, .inl (cy 2, 16, .inr (.inl sf)))] ++ (ltail cy ea na fl (pre ++ (ra, ab, fi, fa) :: post))) H := tl_Pp (foc_perm (X := [(tb, .inr (6, [.ref ro, .ref xp, wr, .int sv])), (ro, .inr (0, [.int mod, .ref ea, .int (nI ln)])), (xp, .inr (2, [.ref cd, .int (nI sz0), .ref st])), (cd, .inl (cy 0, n1, .inl fc)), (st, .inl (cy 2, 32, .inr (.inl g1))), (se, .inl (cy 2, 16, .inr (.inl sf)))]) (x := (ra, ab, fi, fa))).symm hP
      replace hD : va_D A ([(tb, .inr (6, [.ref ro, .ref xp, wr, .int sv])), (ro, .inr (0, [.int mod, .ref ea, .int (nI ln)])), (xp, .inr (2, [.ref cd, .int (nI sz0), .ref st])), (cd, .inl (cy 0, n1, .inl fc)), (st, .inl (cy 2, 32, .inr (.inl g1))), (se, .inl (cy 2, 16, .inr (.inl sf))), (ea, .inl (cy 5, na, .inr (.inr (.inr (.inr fl))))), (ra, .inr (4, [.ref ab, .int (fi 1), .int (fi 2), .int (fi 3), .int (fi 4), .int (fi 5), .int (fi 6), .int (fi 7), .int (fi 8), .int (fi 9), .int (fi 10), .int (fi 11), .int (fi 12)])), (ab, .inl (cy 1, 8, .inl fa))] ++ (rpool cy (pre ++ post))) := tl_subD hD [0, 1, 2, 3, 4, 5, 6, 7, 8] (by decide) rfl
      replace hD : va_D A ([(tb, .inr (6, [.ref ro, .ref xp, wr, .int sv])), (ro, .inr (0, [.int mod, .ref ea, .int (nI ln)])), (xp, .inr (2, [.ref cd, .int (nI sz0), .ref st])), (cd, .inl (cy 0, n1, .inl fc)), (st, .inl (cy 2, 32, .inr (.inl g1))), (se, .inl (cy 2, 16, .inr (.inl sf)))] ++ (ltail cy ea na fl (pre ++ (ra, ab, fi, fa) :: post))) := tl_Dp (foc_perm (X := [(tb, .inr (6, [.ref ro, .ref xp, wr, .int sv])), (ro, .inr (0, [.int mod, .ref ea, .int (nI ln)])), (xp, .inr (2, [.ref cd, .int (nI sz0), .ref st])), (cd, .inl (cy 0, n1, .inl fc)), (st, .inl (cy 2, 32, .inr (.inl g1))), (se, .inl (cy 2, 16, .inr (.inl sf)))]) (x := (ra, ab, fi, fa))).symm hD
      exact ih2 ((i + 1), (pre ++ (ra, ab, fi, fa) :: post), g1) _ _ ls ⟨tl_subP hP [0, 1, 2, 3, 4, 5] rfl, tl_subD hD [0, 1, 2, 3, 4, 5] (by decide) rfl, hS, lv_sub hl [0, 2, 3, 4] rfl, ⟨by omega, ls_set hI2 rfl, ls_len.trans hI3, hI4, fp_nx hI5 (barC_n1 hxi c32)⟩⟩ (by (try dsimp only); omega)
    · refine lv_aload hx hb dX5_firstToBar_35 (lv_at hl 0 rfl) ?_
      refine lv_aload_n hx hb dX5_firstToBar_37 rfl (lv_at hl 2 rfl) ?_
      refine lv_aload hx hb dX5_firstToBar_38 (lv_at hl 0 rfl) ?_
      refine lv_aload_n hx hb dX5_firstToBar_40 rfl (lv_at hl 4 rfl) ?_
      refine mt_calliQ (wr := [(ro, .inr (0, [.int mod, .ref ea, .int (nI ln)])), (ea, .inl (cy 5, na, .inr (.inr (.inr (.inr fl))))), (ab, .inl (cy 1, 8, .inl fa))]) (va_runV (As := [.ref ra, .ref se]) (rest := [.ref ra]) ⟨hx, hb, hml, hown, hts⟩ (c_Table_isOnF l D cy e tb ro xp wr sv cd sz0 st n1 fc g1 se sf ra ab (fi 1) (fi 2) (fi 3) (fi 4) (fi 5) (fi 6) (fi 7) (fi 8) (fi 9) (fi 10) (fi 11) (fi 12) b9 c9 (vv i) H.size hsz hn1 hb4 hb5 hsg9 hbz9 hv9) (cwV 2 hts gX5_firstToBar_X5_isOn rfl rfl rfl (by decide +kernel) ⟨Nat.le_of_ble_eq_true rfl, Nat.le_of_ble_eq_true rfl⟩) (mt_preV hP hD hK hS hA hG [0, 2, 3, 4, 5, 7] rfl (by decide) (q := (RX5, TX5, 4)) (ci := 6) (q0 := 0) rfl rfl) rfl rfl hl.1 rfl (lv_room (Nat.le_of_ble_eq_true rfl)) dX5_firstToBar_41 ⟨(Nat.le_of_ble_eq_true rfl), (Nat.le_of_ble_eq_true rfl)⟩) hP hD hS hA [0, 2, 3, 4, 5, 7] [1, 6, 8] rfl rfl rfl (by decide) (by decide) (fun r41 u H locs hw hP hD hS => ?_)
      obtain ⟨g2_41, rfl⟩ : ∃ z, z = u := ⟨_, rfl⟩
      have hP : va_P D vwCl ([(ro, .inr (0, [.int mod, .ref ea, .int (nI ln)])), (ea, .inl (cy 5, na, .inr (.inr (.inr (.inr fl))))), (ab, .inl (cy 1, 8, .inl fa)), (tb, .inr (6, [.ref ro, .ref xp, wr, .int sv])), (xp, .inr (2, [.ref cd, .int (nI sz0), .ref st])), (cd, .inl (cy 0, n1, .inl fc)), (st, .inl (cy 2, 32, .inr (.inl g2_41))), (se, .inl (cy 2, 16, .inr (.inl sf))), (ra, .inr (4, [.ref ab, .int (fi 1), .int (fi 2), .int (fi 3), .int (fi 4), .int (fi 5), .int (fi 6), .int (fi 7), .int (fi 8), .int (fi 9), .int (fi 10), .int (fi 11), .int (fi 12)]))] ++ (rpool cy (pre ++ post))) H := hP
      have hD : va_D A ([(ro, .inr (0, [.int mod, .ref ea, .int (nI ln)])), (ea, .inl (cy 5, na, .inr (.inr (.inr (.inr fl))))), (ab, .inl (cy 1, 8, .inl fa)), (tb, .inr (6, [.ref ro, .ref xp, wr, .int sv])), (xp, .inr (2, [.ref cd, .int (nI sz0), .ref st])), (cd, .inl (cy 0, n1, .inl fc)), (st, .inl (cy 2, 32, .inr (.inl g2_41))), (se, .inl (cy 2, 16, .inr (.inl sf))), (ra, .inr (4, [.ref ab, .int (fi 1), .int (fi 2), .int (fi 3), .int (fi 4), .int (fi 5), .int (fi 6), .int (fi 7), .int (fi 8), .int (fi 9), .int (fi 10), .int (fi 11), .int (fi 12)]))] ++ (rpool cy (pre ++ post))) := hD
      replace hw : r41 = kc_on (vv i) := hw
      refine W.widen (k := 0) (n := 0) (by omega) (by omega) ?_
      subst hw
      refine pu_calli (va_runV (As := [.int (kc_on (vv i))]) (rest := []) ⟨hx, hb, hml, hown, hts⟩ (c_Row_barsF l D cy e ra ab (fi 1) (fi 2) (fi 3) (fi 4) (fi 5) (fi 6) (fi 7) (fi 8) (fi 9) (fi 10) (fi 11) (fi 12) (kc_on (vv i)) ) (cwV 1 hts gX5_firstToBar_X3_bars rfl rfl rfl (by decide +kernel) ⟨Nat.le_of_ble_eq_true rfl, Nat.le_of_ble_eq_true rfl⟩) (pu_preV hP hK hS hG [8] rfl (q := (RX3, TX3, 13)) (ci := 4) (q0 := 8) rfl rfl) rfl rfl hl.1 rfl (lv_room (Nat.le_of_ble_eq_true rfl)) dX5_firstToBar_44 ⟨(Nat.le_of_ble_eq_true rfl), (Nat.le_of_ble_eq_true rfl)⟩) hP hS (fun H locs hP hS => ?_)
      have hP : va_P D vwCl ([(ro, .inr (0, [.int mod, .ref ea, .int (nI ln)])), (ea, .inl (cy 5, na, .inr (.inr (.inr (.inr fl))))), (ab, .inl (cy 1, 8, .inl fa)), (tb, .inr (6, [.ref ro, .ref xp, wr, .int sv])), (xp, .inr (2, [.ref cd, .int (nI sz0), .ref st])), (cd, .inl (cy 0, n1, .inl fc)), (st, .inl (cy 2, 32, .inr (.inl g2_41))), (se, .inl (cy 2, 16, .inr (.inl sf))), (ra, .inr (4, [.ref ab, .int (fi 1), .int (fi 2), .int (fi 3), .int (fi 4), .int (fi 5), .int (fi 6), .int (fi 7), .int (fi 8), .int (fi 9), .int (fi 10), .int (fi 11), .int (fi 12)]))] ++ (rpool cy (pre ++ post))) H := hP
      refine lv_if_eq (tgt := 54) hx hb dX5_firstToBar_47 (by decide) (fun c47 => ?_) (fun c47 => ?_)
      · refine lv_iinc (v := nI (i + 1)) (lv' := [(3, .int (nI (i + 1))), (4, .ref ra), (0, .ref tb), (1, .int (nI kn)), (2, .ref se)]) hx hb dX5_firstToBar_54 hl (k := 1) rfl (nI_1 i) (by decide) rfl (fun ls hl => ?_)
        refine lv_goto (tgt := 2) hx hb dX5_firstToBar_57 (by decide) ?_
        replace hP : va_P D vwCl ([(ro, .inr (0, [.int mod, .ref ea, .int (nI ln)])), (tb, .inr (6, [.ref ro, .ref xp, wr, .int sv])), (xp, .inr (2, [.ref cd, .int (nI sz0), .ref st])), (cd, .inl (cy 0, n1, .inl fc)), (st, .inl (cy 2, 32, .inr (.inl g2_41))), (se, .inl (cy 2, 16, .inr (.inl sf))), (ea, .inl (cy 5, na, .inr (.inr (.inr (.inr fl))))), (ra, .inr (4, [.ref ab, .int (fi 1), .int (fi 2), .int (fi 3), .int (fi 4), .int (fi 5), .int (fi 6), .int (fi 7), .int (fi 8), .int (fi 9), .int (fi 10), .int (fi 11), .int (fi 12)])), (ab, .inl (cy 1, 8, .inl fa))] ++ (rpool cy (pre ++ post))) H := tl_subP hP [0, 3, 4, 5, 6, 7, 1, 8, 2] rfl
        replace hP : va_P D vwCl ([(ro, .inr (0, [.int mod, .ref ea, .int (nI ln)])), (tb, .inr (6, [.ref ro, .ref xp, wr, .int sv])), (xp, .inr (2, [.ref cd, .int (nI sz0), .ref st])), (cd, .inl (cy 0, n1, .inl fc)), (st, .inl (cy 2, 32, .inr (.inl g2_41))), (se, .inl (cy 2, 16, .inr (.inl sf)))] ++ (ltail cy ea na fl (pre ++ (ra, ab, fi, fa) :: post))) H := tl_Pp (foc_perm (X := [(ro, .inr (0, [.int mod, .ref ea, .int (nI ln)])), (tb, .inr (6, [.ref ro, .ref xp, wr, .int sv])), (xp, .inr (2, [.ref cd, .int (nI sz0), .ref st])), (cd, .inl (cy 0, n1, .inl fc)), (st, .inl (cy 2, 32, .inr (.inl g2_41))), (se, .inl (cy 2, 16, .inr (.inl sf)))]) (x := (ra, ab, fi, fa))).symm hP
        replace hD : va_D A ([(ro, .inr (0, [.int mod, .ref ea, .int (nI ln)])), (tb, .inr (6, [.ref ro, .ref xp, wr, .int sv])), (xp, .inr (2, [.ref cd, .int (nI sz0), .ref st])), (cd, .inl (cy 0, n1, .inl fc)), (st, .inl (cy 2, 32, .inr (.inl g2_41))), (se, .inl (cy 2, 16, .inr (.inl sf))), (ea, .inl (cy 5, na, .inr (.inr (.inr (.inr fl))))), (ra, .inr (4, [.ref ab, .int (fi 1), .int (fi 2), .int (fi 3), .int (fi 4), .int (fi 5), .int (fi 6), .int (fi 7), .int (fi 8), .int (fi 9), .int (fi 10), .int (fi 11), .int (fi 12)])), (ab, .inl (cy 1, 8, .inl fa))] ++ (rpool cy (pre ++ post))) := tl_subD hD [0, 3, 4, 5, 6, 7, 1, 8, 2] (by decide) rfl
        replace hD : va_D A ([(ro, .inr (0, [.int mod, .ref ea, .int (nI ln)])), (tb, .inr (6, [.ref ro, .ref xp, wr, .int sv])), (xp, .inr (2, [.ref cd, .int (nI sz0), .ref st])), (cd, .inl (cy 0, n1, .inl fc)), (st, .inl (cy 2, 32, .inr (.inl g2_41))), (se, .inl (cy 2, 16, .inr (.inl sf)))] ++ (ltail cy ea na fl (pre ++ (ra, ab, fi, fa) :: post))) := tl_Dp (foc_perm (X := [(ro, .inr (0, [.int mod, .ref ea, .int (nI ln)])), (tb, .inr (6, [.ref ro, .ref xp, wr, .int sv])), (xp, .inr (2, [.ref cd, .int (nI sz0), .ref st])), (cd, .inl (cy 0, n1, .inl fc)), (st, .inl (cy 2, 32, .inr (.inl g2_41))), (se, .inl (cy 2, 16, .inr (.inl sf)))]) (x := (ra, ab, fi, fa))).symm hD
        exact ih2 ((i + 1), (pre ++ (ra, ab, fi, fa) :: post), g2_41) _ _ ls ⟨tl_subP hP [1, 0, 2, 3, 4, 5] rfl, tl_subD hD [1, 0, 2, 3, 4, 5] (by decide) rfl, hS, lv_sub hl [0, 2, 3, 4] rfl, ⟨by omega, ls_set hI2 rfl, ls_len.trans hI3, hI4, fp_nx hI5 (barC_n2 hxi c47)⟩⟩ (by (try dsimp only); omega)
      · refine lv_iload_n hx hb dX5_firstToBar_50 rfl (lv_at hl 1 rfl) ?_
        refine lv_iconst (v := 1) hx hb dX5_firstToBar_51 (by decide +kernel) ?_
        refine lv_iadd hx hb dX5_firstToBar_52 ?_
        refine lv_topi (fun x_2 ex_2 => ?_)
        obtain rfl : x_2 = nI (i + 1) := by rw [ex_2]; exact nI_1 i
        replace hP : va_P D vwCl ([(ro, .inr (0, [.int mod, .ref ea, .int (nI ln)])), (tb, .inr (6, [.ref ro, .ref xp, wr, .int sv])), (xp, .inr (2, [.ref cd, .int (nI sz0), .ref st])), (cd, .inl (cy 0, n1, .inl fc)), (st, .inl (cy 2, 32, .inr (.inl g2_41))), (se, .inl (cy 2, 16, .inr (.inl sf))), (ea, .inl (cy 5, na, .inr (.inr (.inr (.inr fl))))), (ra, .inr (4, [.ref ab, .int (fi 1), .int (fi 2), .int (fi 3), .int (fi 4), .int (fi 5), .int (fi 6), .int (fi 7), .int (fi 8), .int (fi 9), .int (fi 10), .int (fi 11), .int (fi 12)])), (ab, .inl (cy 1, 8, .inl fa))] ++ (rpool cy (pre ++ post))) H := tl_subP hP [0, 3, 4, 5, 6, 7, 1, 8, 2] rfl
        replace hP : va_P D vwCl ([(ro, .inr (0, [.int mod, .ref ea, .int (nI ln)])), (tb, .inr (6, [.ref ro, .ref xp, wr, .int sv])), (xp, .inr (2, [.ref cd, .int (nI sz0), .ref st])), (cd, .inl (cy 0, n1, .inl fc)), (st, .inl (cy 2, 32, .inr (.inl g2_41))), (se, .inl (cy 2, 16, .inr (.inl sf)))] ++ (ltail cy ea na fl (pre ++ (ra, ab, fi, fa) :: post))) H := tl_Pp (foc_perm (X := [(ro, .inr (0, [.int mod, .ref ea, .int (nI ln)])), (tb, .inr (6, [.ref ro, .ref xp, wr, .int sv])), (xp, .inr (2, [.ref cd, .int (nI sz0), .ref st])), (cd, .inl (cy 0, n1, .inl fc)), (st, .inl (cy 2, 32, .inr (.inl g2_41))), (se, .inl (cy 2, 16, .inr (.inl sf)))]) (x := (ra, ab, fi, fa))).symm hP
        replace hD : va_D A ([(ro, .inr (0, [.int mod, .ref ea, .int (nI ln)])), (tb, .inr (6, [.ref ro, .ref xp, wr, .int sv])), (xp, .inr (2, [.ref cd, .int (nI sz0), .ref st])), (cd, .inl (cy 0, n1, .inl fc)), (st, .inl (cy 2, 32, .inr (.inl g2_41))), (se, .inl (cy 2, 16, .inr (.inl sf))), (ea, .inl (cy 5, na, .inr (.inr (.inr (.inr fl))))), (ra, .inr (4, [.ref ab, .int (fi 1), .int (fi 2), .int (fi 3), .int (fi 4), .int (fi 5), .int (fi 6), .int (fi 7), .int (fi 8), .int (fi 9), .int (fi 10), .int (fi 11), .int (fi 12)])), (ab, .inl (cy 1, 8, .inl fa))] ++ (rpool cy (pre ++ post))) := tl_subD hD [0, 3, 4, 5, 6, 7, 1, 8, 2] (by decide) rfl
        replace hD : va_D A ([(ro, .inr (0, [.int mod, .ref ea, .int (nI ln)])), (tb, .inr (6, [.ref ro, .ref xp, wr, .int sv])), (xp, .inr (2, [.ref cd, .int (nI sz0), .ref st])), (cd, .inl (cy 0, n1, .inl fc)), (st, .inl (cy 2, 32, .inr (.inl g2_41))), (se, .inl (cy 2, 16, .inr (.inl sf)))] ++ (ltail cy ea na fl (pre ++ (ra, ab, fi, fa) :: post))) := tl_Dp (foc_perm (X := [(ro, .inr (0, [.int mod, .ref ea, .int (nI ln)])), (tb, .inr (6, [.ref ro, .ref xp, wr, .int sv])), (xp, .inr (2, [.ref cd, .int (nI sz0), .ref st])), (cd, .inl (cy 0, n1, .inl fc)), (st, .inl (cy 2, 32, .inr (.inl g2_41))), (se, .inl (cy 2, 16, .inr (.inl sf)))]) (x := (ra, ab, fi, fa))).symm hD
        have hP9 : va_P D vwCl ([(tb, .inr (6, [.ref ro, .ref xp, wr, .int sv])), (ro, .inr (0, [.int mod, .ref ea, .int (nI ln)])), (xp, .inr (2, [.ref cd, .int (nI sz0), .ref st])), (cd, .inl (cy 0, n1, .inl fc)), (st, .inl (cy 2, 32, .inr (.inl g2_41))), (se, .inl (cy 2, 16, .inr (.inl sf)))] ++ (ltail cy ea na fl (pre ++ (ra, ab, fi, fa) :: post))) H := tl_subP hP [1, 0, 2, 3, 4, 5] rfl
        have hD9 : va_D A ([(tb, .inr (6, [.ref ro, .ref xp, wr, .int sv])), (ro, .inr (0, [.int mod, .ref ea, .int (nI ln)])), (xp, .inr (2, [.ref cd, .int (nI sz0), .ref st])), (cd, .inl (cy 0, n1, .inl fc)), (st, .inl (cy 2, 32, .inr (.inl g2_41))), (se, .inl (cy 2, 16, .inr (.inl sf)))] ++ (ltail cy ea na fl (pre ++ (ra, ab, fi, fa) :: post))) := tl_subD hD [1, 0, 2, 3, 4, 5] (by decide) rfl
        refine W.widen (k := 0) (n := 0) (by omega) (by omega) ?_
        exact W.iret hx hb hr (fun t ht hW => ⟨⟨_, ((pre ++ (ra, ab, fi, fa) :: post), g2_41), rfl, ⟨⟨ls_set hI2 rfl, ls_len.trans hI3⟩, hI4, Or.inr ⟨i, hi, rfl, barC_y hxi c32 c47, hI5⟩⟩, by rw [ht]; exact hP9, hD9⟩, hS.F ht⟩) hS.2.2 dX5_firstToBar_53

set_option maxHeartbeats 4000000 in
set_option maxRecDepth 100000 in
theorem c_Table_pick (l : Launch) (D : va_G) (cy : Nat → ClassId) (e : Nat → Nat)  (tb : Nat) (ro : Nat) (xp : Nat) (wr : Value) (sv : Int32) (mod : Int32) (ea : Nat) (ln : Nat) (na : Nat) (fl : Nat → Option Nat) (rs : List rwT) (q : Nat → Bool) (k : Int32) (ps : Int32) (hls : lsok e ea na fl rs) (hna : na ≤ 60) (hln : rs.length = ln) (hq : ∀ (i : Nat) (x : rwT), rs[i]? = some x → (q i = true ↔ if ps = 0 then x.2.2.1 12 = 0 else 0 < x.2.2.1 11)) : Met l yX5_pick wsX5_pick ({ frames := 3, cells := 0, slots := 0, locals := 64 }) (va_Pc [.ref tb, .int k, .int ps] (pu_B D cy e ([(tb, .inr (6, [.ref ro, .ref xp, wr, .int sv])), (ro, .inr (0, [.int mod, .ref ea, .int (nI ln)]))] ++ (ltail cy ea na fl rs)))) (va_Qi (fun (r : Int32) (_ : Unit) => r = fp_pk q ln 0 k) (fun _ _ => True) (fun _ => False)) 0 0 (fun _ => False) := by
  refine Met.ofW (cc := cX5_pick) (maxL := 6) (ret := (some .int)) (by decide) rfl ?_
  intro p ev s m args below meth c s₁ B hml hv
  obtain ⟨rfl, hP, hK, hG⟩ := hv
  have hx := B.exec
  have hb := B.bytes
  have hr := B.returns
  have hts := atoms_spec (ws := wsX5_pick) B.pre
  have hown : s.vm.findClass RX5 = some m.cls := findClass_of_methodNamed B.named
  have hlocks := B.notSynchronized
  have hS : va_S (fun _ => False) s.heap s.heap [] := va_S.rf
  have hP : va_P D vwCl ([(tb, .inr (6, [.ref ro, .ref xp, wr, .int sv])), (ro, .inr (0, [.int mod, .ref ea, .int (nI ln)]))] ++ (ltail cy ea na fl rs)) s.heap := hP
  have iX5 : ∀ w ∈ wsX50, w ∈ wsX5_pick := fun w h => List.mem_cons_of_mem _ (List.mem_append_left _ (List.mem_append_left _ (List.mem_append_right _ h)))
  have iX3 : ∀ w ∈ wsX30, w ∈ wsX5_pick := fun w h => List.mem_cons_of_mem _ (List.mem_append_left _ (List.mem_append_right _ h))
  have iJx4a65c : ∀ w ∈ wsJx4a65c0, w ∈ wsX5_pick := fun w h => List.mem_cons_of_mem _ (List.mem_append_right _ h)
  have hl := lv_entry ([.ref tb, .int k, .int ps]) (n := 6) (Nat.le_of_ble_eq_true rfl)
  rw [lg_entry_eq]
  generalize (lg_sl ([.ref tb, .int k, .int ps]) ++ List.replicate (6 - (lg_sl ([.ref tb, .int k, .int ps])).length) Slot.unset).toArray = ls at hl ⊢
  have hl : lv_has ls 6 [(0, .ref tb), (1, .int k), (2, .int ps)] := hl
  refine lv_iconst (v := 0) hx hb dX5_pick_0 (by decide +kernel) ?_
  refine lv_istore_n (lv' := [(3, .int 0), (0, .ref tb), (1, .int k), (2, .int ps)]) hx hb dX5_pick_1 rfl hl (by decide) rfl (fun ls hl => ?_)
  refine lv_iconst (v := 0) hx hb dX5_pick_2 (by decide +kernel) ?_
  refine lv_topi (fun x_1 ex_1 => ?_)
  obtain rfl : x_1 = nI 0 := by rw [ex_1]; exact nI_0.symm
  refine lv_istore (lv' := [(4, .int (nI 0)), (3, .int 0), (0, .ref tb), (1, .int k), (2, .int ps)]) hx hb dX5_pick_3 hl (by decide) rfl (fun ls hl => ?_)
  refine lp_W (σ := Nat × List rwT × Int32 × Int32) (Wf := fun H locs ls => W p l ev _ s m _ below meth c H locs (0) (0) _ (F0 m 5 ls [])) (fun zz9 H locs ls => match zz9 with | (i, rs1, bf, lf) => va_P D vwCl ([(tb, .inr (6, [.ref ro, .ref xp, wr, .int sv])), (ro, .inr (0, [.int mod, .ref ea, .int (nI ln)]))] ++ (ltail cy ea na fl rs1)) H ∧ va_S (fun _ => False) s.heap H locs ∧ lv_has ls 6 [(4, .int (nI i)), (3, .int bf), (0, .ref tb), (1, .int k), (2, .int ps)] ∧ (i ≤ ln ∧ lsok e ea na fl rs1 ∧ rs1.length = ln ∧ rs1 = rs ∧ fp_pk q ln 0 k = fp_pk q (ln - i) i lf ∧ lf + bf = k)) (fun zz9 => match zz9 with | (i, rs1, bf, lf) => ln - i) ?_ (0, rs, 0, k) _ _ ls ⟨hP, hS, lv_sub hl [0, 1, 2, 3, 4] rfl, ⟨Nat.zero_le _, hls, hln, rfl, rfl, Int32.add_zero k⟩⟩
  intro zz9 H locs ls hI ih
  obtain ⟨i, rs1, bf, lf⟩ := zz9
  obtain ⟨hP, hS, hl, hI⟩ := hI
  have ih5 := ih
  have hI5 := hI
  have hP : va_P D vwCl ([(tb, .inr (6, [.ref ro, .ref xp, wr, .int sv])), (ro, .inr (0, [.int mod, .ref ea, .int (nI ln)]))] ++ (ltail cy ea na fl rs1)) H := hP
  have hl : lv_has ls 6 [(4, .int (nI i)), (3, .int bf), (0, .ref tb), (1, .int k), (2, .int ps)] := hl
  obtain ⟨hI1, hI2, hI3, hI4, hQ5, hQ6⟩ := hI
  refine lv_iload hx hb dX5_pick_5 (lv_at hl 0 rfl) ?_
  refine lv_aload_n hx hb dX5_pick_7 rfl (lv_at hl 2 rfl) ?_
  refine va_get (D := D) (ci := 6) (v := .ref ro) (C := RX5) (T := TX5) (N := 4) hx hb hts iX5 hown hK hP 0 rfl rfl 0 (by decide) (hts (.fieldLink RX5 12 "InterlockTables$Table" "rows" "Ljava/util/ArrayList;") (by decide +kernel)) (fun _ h9 => h9) rfl dX5_pick_8 ?_
  refine pu_calli (va_runV (As := []) (rest := [.int (nI i)]) ⟨hx, hb, hml, hown, hts⟩ (c_AL_size l D cy e ro mod (.ref ea) (nI ln) ) (cwV 0 hts gX5_pick_Jx4a65c_size_8abf5 rfl rfl rfl (by decide +kernel) ⟨Nat.le_of_ble_eq_true rfl, Nat.le_of_ble_eq_true rfl⟩) (pu_preV hP hK hS hG [1] rfl (q := (RJx4a65c, TJx4a65c, 3)) (ci := 0) (q0 := 1) rfl rfl) rfl rfl hl.1 rfl (lv_room (Nat.le_of_ble_eq_true rfl)) dX5_pick_11 ⟨(Nat.le_of_ble_eq_true rfl), (Nat.le_of_ble_eq_true rfl)⟩) hP hS (fun H locs hP hS => ?_)
  have hP : va_P D vwCl ([(tb, .inr (6, [.ref ro, .ref xp, wr, .int sv])), (ro, .inr (0, [.int mod, .ref ea, .int (nI ln)]))] ++ (ltail cy ea na fl rs1)) H := hP
  refine lv_icmp_ge (tgt := 73) hx hb dX5_pick_14 (by decide) (fun c14 => ?_) (fun c14 => ?_)
  · have hge : ln ≤ i := (nI_leI (by have h9 := hls.2.2.1; omega) (by have h9 := hls.2.2.1; omega)).mp c14
    refine lv_iconst (v := -1) hx hb dX5_pick_73 (by decide +kernel) ?_
    exact W.iret hx hb hr (fun t ht hW => ⟨⟨_, (), rfl, fp_pk_e' hQ5 hge, trivial⟩, hS.F ht⟩) hS.2.2 dX5_pick_74
  · have hi : i < ln := pk_nle (by have h9 := hls.2.2.1; omega) c14
    refine lv_aload_n hx hb dX5_pick_17 rfl (lv_at hl 2 rfl) ?_
    refine va_get (D := D) (ci := 6) (v := .ref ro) (C := RX5) (T := TX5) (N := 4) hx hb hts iX5 hown hK hP 0 rfl rfl 0 (by decide) (hts (.fieldLink RX5 12 "InterlockTables$Table" "rows" "Ljava/util/ArrayList;") (by decide +kernel)) (fun _ h9 => h9) rfl dX5_pick_18 ?_
    refine lv_iload hx hb dX5_pick_21 (lv_at hl 0 rfl) ?_
    obtain ⟨pre, xx, post, hrs, hpl⟩ := foc_split (rs := rs1) (i := i) (by omega)
    obtain ⟨ra, ab, fi, fa⟩ := xx
    subst hrs
    replace hP : va_P D vwCl ([(tb, .inr (6, [.ref ro, .ref xp, wr, .int sv])), (ro, .inr (0, [.int mod, .ref ea, .int (nI ln)])), (ea, .inl (cy 5, na, .inr (.inr (.inr (.inr fl))))), (ra, .inr (4, [.ref ab, .int (fi 1), .int (fi 2), .int (fi 3), .int (fi 4), .int (fi 5), .int (fi 6), .int (fi 7), .int (fi 8), .int (fi 9), .int (fi 10), .int (fi 11), .int (fi 12)])), (ab, .inl (cy 1, 8, .inl fa))] ++ (rpool cy (pre ++ post))) H := tl_Pp (foc_perm (X := [(tb, .inr (6, [.ref ro, .ref xp, wr, .int sv])), (ro, .inr (0, [.int mod, .ref ea, .int (nI ln)]))])) hP
    have hxi : rs[i]? = some (ra, ab, fi, fa) := by rw [← hI4, ← hpl]; exact mid_at
    refine pu_callq (va_runV (As := [.int (nI i)]) (rest := []) ⟨hx, hb, hml, hown, hts⟩ (c_get l D cy e ro mod ea ln na fl i ra (by have h9 := hI2.2.2.1; omega) (by rw [← hpl]; exact ls_at hI2)) (cwV 1 hts gX5_pick_Jx4a65c_get_915e3 rfl rfl rfl (by decide +kernel) ⟨Nat.le_of_ble_eq_true rfl, Nat.le_of_ble_eq_true rfl⟩) (pu_preV hP hK hS hG [1, 2] rfl (q := (RJx4a65c, TJx4a65c, 3)) (ci := 0) (q0 := 1) rfl rfl) rfl rfl hl.1 rfl (lv_room (Nat.le_of_ble_eq_true rfl)) dX5_pick_23 ⟨(Nat.le_of_ble_eq_true rfl), (Nat.le_of_ble_eq_true rfl)⟩) hP hS (fun H locs hP hS => ?_)
    have hP : va_P D vwCl ([(tb, .inr (6, [.ref ro, .ref xp, wr, .int sv])), (ro, .inr (0, [.int mod, .ref ea, .int (nI ln)])), (ea, .inl (cy 5, na, .inr (.inr (.inr (.inr fl))))), (ra, .inr (4, [.ref ab, .int (fi 1), .int (fi 2), .int (fi 3), .int (fi 4), .int (fi 5), .int (fi 6), .int (fi 7), .int (fi 8), .int (fi 9), .int (fi 10), .int (fi 11), .int (fi 12)])), (ab, .inl (cy 1, 8, .inl fa))] ++ (rpool cy (pre ++ post))) H := hP
    refine va_castY (C := RX3) hx hb hown (hts (.classLink RX5 35 RX3) (by decide +kernel)) hG.gX.2.2.2.2.2.1 (va_recv hK hP (q := (RX3, TX3, 13)) (ci := 4) (q0 := 3) rfl rfl) dX5_pick_26 ?_
    refine lv_astore (lv' := [(5, .ref ra), (4, .int (nI i)), (3, .int bf), (0, .ref tb), (1, .int k), (2, .int ps)]) hx hb dX5_pick_29 hl (by decide) rfl (fun ls hl => ?_)
    refine lv_iload_n hx hb dX5_pick_31 rfl (lv_at hl 5 rfl) ?_
    refine lv_if_eq (tgt := 46) hx hb dX5_pick_32 (by decide) (fun c32 => ?_) (fun c32 => ?_)
    · refine lv_aload hx hb dX5_pick_46 (lv_at hl 0 rfl) ?_
      refine va_getN (D := D) (ci := 4) (v := .int (fi 12)) (C := RX3) (T := TX3) (N := 13) hx hb hts iX3 hown hK hP 3 rfl rfl 12 (by decide) (gl_N.f hG.gN 28 rfl) (fun _ h9 => h9) rfl dX5_pick_48 ?_
      refine lv_if_ne (tgt := 67) hx hb dX5_pick_51 (by decide) (fun c51 => ?_) (fun c51 => ?_)
      · refine lv_iinc (v := nI (i + 1)) (lv' := [(4, .int (nI (i + 1))), (5, .ref ra), (3, .int bf), (0, .ref tb), (1, .int k), (2, .int ps)]) hx hb dX5_pick_67 hl (k := 1) rfl (nI_1 i) (by decide) rfl (fun ls hl => ?_)
        refine lv_goto (tgt := 5) hx hb dX5_pick_70 (by decide) ?_
        have hqi := hq i _ hxi
        replace hP : va_P D vwCl ([(tb, .inr (6, [.ref ro, .ref xp, wr, .int sv])), (ro, .inr (0, [.int mod, .ref ea, .int (nI ln)])), (ea, .inl (cy 5, na, .inr (.inr (.inr (.inr fl))))), (ra, .inr (4, [.ref ab, .int (fi 1), .int (fi 2), .int (fi 3), .int (fi 4), .int (fi 5), .int (fi 6), .int (fi 7), .int (fi 8), .int (fi 9), .int (fi 10), .int (fi 11), .int (fi 12)])), (ab, .inl (cy 1, 8, .inl fa))] ++ (rpool cy (pre ++ post))) H := tl_subP hP [0, 1, 2, 3, 4] rfl
        replace hP : va_P D vwCl ([(tb, .inr (6, [.ref ro, .ref xp, wr, .int sv])), (ro, .inr (0, [.int mod, .ref ea, .int (nI ln)]))] ++ (ltail cy ea na fl (pre ++ (ra, ab, fi, fa) :: post))) H := tl_Pp (foc_perm (X := [(tb, .inr (6, [.ref ro, .ref xp, wr, .int sv])), (ro, .inr (0, [.int mod, .ref ea, .int (nI ln)]))]) (x := (ra, ab, fi, fa))).symm hP
        exact ih5 ((i + 1), (pre ++ (ra, ab, fi, fa) :: post), bf, lf) _ _ ls ⟨tl_subP hP [0, 1] rfl, hS, lv_sub hl [0, 2, 3, 4, 5] rfl, ⟨by omega, ls_set hI2 rfl, ls_len.trans hI3, hI4, fp_pk_s0' hQ5 hi (fun q9 => by have h9 := hqi.mp q9; rw [if_pos c32] at h9; exact c51 h9), hQ6⟩⟩ (by (try dsimp only); omega)
      · refine lv_iload_n hx hb dX5_pick_54 rfl (lv_at hl 2 rfl) ?_
        refine lv_iload_n hx hb dX5_pick_55 rfl (lv_at hl 4 rfl) ?_
        refine lv_icmp_ne (tgt := 64) hx hb dX5_pick_56 (by decide) (fun c56 => ?_) (fun c56 => ?_)
        · refine lv_iinc (v := bf + 1) (lv' := [(3, .int (bf + 1)), (5, .ref ra), (4, .int (nI i)), (0, .ref tb), (1, .int k), (2, .int ps)]) hx hb dX5_pick_64 hl (k := 2) rfl (rfl) (by decide) rfl (fun ls hl => ?_)
          refine lv_iinc (v := nI (i + 1)) (lv' := [(4, .int (nI (i + 1))), (3, .int (bf + 1)), (5, .ref ra), (0, .ref tb), (1, .int k), (2, .int ps)]) hx hb dX5_pick_67 hl (k := 2) rfl (nI_1 i) (by decide) rfl (fun ls hl => ?_)
          refine lv_goto (tgt := 5) hx hb dX5_pick_70 (by decide) ?_
          have hqi := hq i _ hxi
          replace hP : va_P D vwCl ([(tb, .inr (6, [.ref ro, .ref xp, wr, .int sv])), (ro, .inr (0, [.int mod, .ref ea, .int (nI ln)])), (ea, .inl (cy 5, na, .inr (.inr (.inr (.inr fl))))), (ra, .inr (4, [.ref ab, .int (fi 1), .int (fi 2), .int (fi 3), .int (fi 4), .int (fi 5), .int (fi 6), .int (fi 7), .int (fi 8), .int (fi 9), .int (fi 10), .int (fi 11), .int (fi 12)])), (ab, .inl (cy 1, 8, .inl fa))] ++ (rpool cy (pre ++ post))) H := tl_subP hP [0, 1, 2, 3, 4] rfl
          replace hP : va_P D vwCl ([(tb, .inr (6, [.ref ro, .ref xp, wr, .int sv])), (ro, .inr (0, [.int mod, .ref ea, .int (nI ln)]))] ++ (ltail cy ea na fl (pre ++ (ra, ab, fi, fa) :: post))) H := tl_Pp (foc_perm (X := [(tb, .inr (6, [.ref ro, .ref xp, wr, .int sv])), (ro, .inr (0, [.int mod, .ref ea, .int (nI ln)]))]) (x := (ra, ab, fi, fa))).symm hP
          exact ih5 ((i + 1), (pre ++ (ra, ab, fi, fa) :: post), (bf + 1), (lf - 1)) _ _ ls ⟨tl_subP hP [0, 1] rfl, hS, lv_sub hl [0, 1, 3, 4, 5] rfl, ⟨by omega, ls_set hI2 rfl, ls_len.trans hI3, hI4, fp_pk_s1' hQ5 hi (hqi.mpr (by rw [if_pos c32]; exact c51)) (pz_n hQ6 c56), pz_s hQ6⟩⟩ (by (try dsimp only); omega)
        · refine lv_iload hx hb dX5_pick_59 (lv_at hl 1 rfl) ?_
          refine lv_iconst (v := 1) hx hb dX5_pick_61 (by decide +kernel) ?_
          refine lv_iadd hx hb dX5_pick_62 ?_
          refine lv_topi (fun x_2 ex_2 => ?_)
          obtain rfl : x_2 = nI (i + 1) := by rw [ex_2]; exact nI_1 i
          have hqi := hq i _ hxi
          exact W.iret hx hb hr (fun t ht hW => ⟨⟨_, (), rfl, fp_pk_s2' hQ5 hi (hqi.mpr (by rw [if_pos c32]; exact c51)) (pz_0 hQ6 c56), trivial⟩, hS.F ht⟩) hS.2.2 dX5_pick_63
    · refine lv_aload hx hb dX5_pick_35 (lv_at hl 0 rfl) ?_
      refine va_getN (D := D) (ci := 4) (v := .int (fi 11)) (C := RX3) (T := TX3) (N := 13) hx hb hts iX3 hown hK hP 3 rfl rfl 11 (by decide) (gl_N.f hG.gN 26 rfl) (fun _ h9 => h9) rfl dX5_pick_37 ?_
      refine lv_if_le (tgt := 67) hx hb dX5_pick_40 (by decide) (fun c40 => ?_) (fun c40 => ?_)
      · refine lv_iinc (v := nI (i + 1)) (lv' := [(4, .int (nI (i + 1))), (5, .ref ra), (3, .int bf), (0, .ref tb), (1, .int k), (2, .int ps)]) hx hb dX5_pick_67 hl (k := 1) rfl (nI_1 i) (by decide) rfl (fun ls hl => ?_)
        refine lv_goto (tgt := 5) hx hb dX5_pick_70 (by decide) ?_
        have hqi := hq i _ hxi
        replace hP : va_P D vwCl ([(tb, .inr (6, [.ref ro, .ref xp, wr, .int sv])), (ro, .inr (0, [.int mod, .ref ea, .int (nI ln)])), (ea, .inl (cy 5, na, .inr (.inr (.inr (.inr fl))))), (ra, .inr (4, [.ref ab, .int (fi 1), .int (fi 2), .int (fi 3), .int (fi 4), .int (fi 5), .int (fi 6), .int (fi 7), .int (fi 8), .int (fi 9), .int (fi 10), .int (fi 11), .int (fi 12)])), (ab, .inl (cy 1, 8, .inl fa))] ++ (rpool cy (pre ++ post))) H := tl_subP hP [0, 1, 2, 3, 4] rfl
        replace hP : va_P D vwCl ([(tb, .inr (6, [.ref ro, .ref xp, wr, .int sv])), (ro, .inr (0, [.int mod, .ref ea, .int (nI ln)]))] ++ (ltail cy ea na fl (pre ++ (ra, ab, fi, fa) :: post))) H := tl_Pp (foc_perm (X := [(tb, .inr (6, [.ref ro, .ref xp, wr, .int sv])), (ro, .inr (0, [.int mod, .ref ea, .int (nI ln)]))]) (x := (ra, ab, fi, fa))).symm hP
        exact ih5 ((i + 1), (pre ++ (ra, ab, fi, fa) :: post), bf, lf) _ _ ls ⟨tl_subP hP [0, 1] rfl, hS, lv_sub hl [0, 2, 3, 4, 5] rfl, ⟨by omega, ls_set hI2 rfl, ls_len.trans hI3, hI4, fp_pk_s0' hQ5 hi (fun q9 => by have h9 := hqi.mp q9; rw [if_neg c32] at h9; exact Int32.not_lt.mpr c40 h9), hQ6⟩⟩ (by (try dsimp only); omega)
      · refine lv_goto (tgt := 54) hx hb dX5_pick_43 (by decide) ?_
        refine lv_iload_n hx hb dX5_pick_54 rfl (lv_at hl 2 rfl) ?_
        refine lv_iload_n hx hb dX5_pick_55 rfl (lv_at hl 4 rfl) ?_
        refine lv_icmp_ne (tgt := 64) hx hb dX5_pick_56 (by decide) (fun c56 => ?_) (fun c56 => ?_)
        · refine lv_iinc (v := bf + 1) (lv' := [(3, .int (bf + 1)), (5, .ref ra), (4, .int (nI i)), (0, .ref tb), (1, .int k), (2, .int ps)]) hx hb dX5_pick_64 hl (k := 2) rfl (rfl) (by decide) rfl (fun ls hl => ?_)
          refine lv_iinc (v := nI (i + 1)) (lv' := [(4, .int (nI (i + 1))), (3, .int (bf + 1)), (5, .ref ra), (0, .ref tb), (1, .int k), (2, .int ps)]) hx hb dX5_pick_67 hl (k := 2) rfl (nI_1 i) (by decide) rfl (fun ls hl => ?_)
          refine lv_goto (tgt := 5) hx hb dX5_pick_70 (by decide) ?_
          have hqi := hq i _ hxi
          replace hP : va_P D vwCl ([(tb, .inr (6, [.ref ro, .ref xp, wr, .int sv])), (ro, .inr (0, [.int mod, .ref ea, .int (nI ln)])), (ea, .inl (cy 5, na, .inr (.inr (.inr (.inr fl))))), (ra, .inr (4, [.ref ab, .int (fi 1), .int (fi 2), .int (fi 3), .int (fi 4), .int (fi 5), .int (fi 6), .int (fi 7), .int (fi 8), .int (fi 9), .int (fi 10), .int (fi 11), .int (fi 12)])), (ab, .inl (cy 1, 8, .inl fa))] ++ (rpool cy (pre ++ post))) H := tl_subP hP [0, 1, 2, 3, 4] rfl
          replace hP : va_P D vwCl ([(tb, .inr (6, [.ref ro, .ref xp, wr, .int sv])), (ro, .inr (0, [.int mod, .ref ea, .int (nI ln)]))] ++ (ltail cy ea na fl (pre ++ (ra, ab, fi, fa) :: post))) H := tl_Pp (foc_perm (X := [(tb, .inr (6, [.ref ro, .ref xp, wr, .int sv])), (ro, .inr (0, [.int mod, .ref ea, .int (nI ln)]))]) (x := (ra, ab, fi, fa))).symm hP
          exact ih5 ((i + 1), (pre ++ (ra, ab, fi, fa) :: post), (bf + 1), (lf - 1)) _ _ ls ⟨tl_subP hP [0, 1] rfl, hS, lv_sub hl [0, 1, 3, 4, 5] rfl, ⟨by omega, ls_set hI2 rfl, ls_len.trans hI3, hI4, fp_pk_s1' hQ5 hi (hqi.mpr (by rw [if_neg c32]; exact Int32.not_le.mp c40)) (pz_n hQ6 c56), pz_s hQ6⟩⟩ (by (try dsimp only); omega)
        · refine lv_iload hx hb dX5_pick_59 (lv_at hl 1 rfl) ?_
          refine lv_iconst (v := 1) hx hb dX5_pick_61 (by decide +kernel) ?_
          refine lv_iadd hx hb dX5_pick_62 ?_
          refine lv_topi (fun x_3 ex_3 => ?_)
          obtain rfl : x_3 = nI (i + 1) := by rw [ex_3]; exact nI_1 i
          have hqi := hq i _ hxi
          exact W.iret hx hb hr (fun t ht hW => ⟨⟨_, (), rfl, fp_pk_s2' hQ5 hi (hqi.mpr (by rw [if_neg c32]; exact Int32.not_le.mp c40)) (pz_0 hQ6 c56), trivial⟩, hS.F ht⟩) hS.2.2 dX5_pick_63

set_option maxHeartbeats 4000000 in
set_option maxRecDepth 100000 in
theorem c_Table_passedRow (l : Launch) (D : va_G) (cy : Nat → ClassId) (e : Nat → Nat)  (tb : Nat) (ro : Nat) (xp : Nat) (wr : Value) (sv : Int32) (mod : Int32) (ea : Nat) (ln : Nat) (na : Nat) (fl : Nat → Option Nat) (rs : List rwT) (q : Nat → Bool) (k : Int32) (hls : lsok e ea na fl rs) (hna : na ≤ 60) (hln : rs.length = ln) (hq : ∀ (i : Nat) (x : rwT), rs[i]? = some x → (q i = true ↔ 0 < x.2.2.1 11)) : Met l yX5_passedRow wsX5_passedRow ({ frames := 4, cells := 0, slots := 0, locals := 89 }) (va_Pc [.ref tb, .int k] (pu_B D cy e ([(tb, .inr (6, [.ref ro, .ref xp, wr, .int sv])), (ro, .inr (0, [.int mod, .ref ea, .int (nI ln)]))] ++ (ltail cy ea na fl rs)))) (va_Qi (fun (r : Int32) (_ : Unit) => r = fp_pk q ln 0 k) (fun _ _ => True) (fun _ => False)) 0 0 (fun _ => False) := by
  refine Met.ofW (cc := cX5_passedRow) (maxL := 2) (ret := (some .int)) (by decide) rfl ?_
  intro p ev s m args below meth c s₁ B hml hv
  obtain ⟨rfl, hP, hK, hG⟩ := hv
  have hx := B.exec
  have hb := B.bytes
  have hr := B.returns
  have hts := atoms_spec (ws := wsX5_passedRow) B.pre
  have hown : s.vm.findClass RX5 = some m.cls := findClass_of_methodNamed B.named
  have hlocks := B.notSynchronized
  have hS : va_S (fun _ => False) s.heap s.heap [] := va_S.rf
  have hP : va_P D vwCl ([(tb, .inr (6, [.ref ro, .ref xp, wr, .int sv])), (ro, .inr (0, [.int mod, .ref ea, .int (nI ln)]))] ++ (ltail cy ea na fl rs)) s.heap := hP
  have iX5 : ∀ w ∈ wsX50, w ∈ wsX5_passedRow := fun w h => List.mem_cons_of_mem _ (List.mem_append_left _ (List.mem_append_left _ (List.mem_append_right _ h)))
  have iX3 : ∀ w ∈ wsX30, w ∈ wsX5_passedRow := fun w h => List.mem_cons_of_mem _ (List.mem_append_left _ (List.mem_append_right _ h))
  have iJx4a65c : ∀ w ∈ wsJx4a65c0, w ∈ wsX5_passedRow := fun w h => List.mem_cons_of_mem _ (List.mem_append_right _ h)
  have hl := lv_entry ([.ref tb, .int k]) (n := 2) (Nat.le_of_ble_eq_true rfl)
  rw [lg_entry_eq]
  generalize (lg_sl ([.ref tb, .int k]) ++ List.replicate (2 - (lg_sl ([.ref tb, .int k])).length) Slot.unset).toArray = ls at hl ⊢
  have hl : lv_has ls 2 [(0, .ref tb), (1, .int k)] := hl
  refine lv_aload_n hx hb dX5_passedRow_0 rfl (lv_at hl 0 rfl) ?_
  refine lv_iload_n hx hb dX5_passedRow_1 rfl (lv_at hl 1 rfl) ?_
  refine lv_iconst (v := 1) hx hb dX5_passedRow_2 (by decide +kernel) ?_
  refine pu_callni (va_runV (As := [.int k, .int 1]) (rest := []) ⟨hx, hb, hml, hown, hts⟩ (c_Table_pick l D cy e tb ro xp wr sv mod ea ln na fl rs q k 1 hls hna hln (fun i x hx => by rw [if_neg (by decide)]; exact hq i x hx)) (cwV 2 hts gX5_passedRow_X5_pick rfl rfl rfl (by decide +kernel) ⟨Nat.le_of_ble_eq_true rfl, Nat.le_of_ble_eq_true rfl⟩) (pu_preVT hP hK hS hG [0, 1] rfl (q := (RX5, TX5, 4)) (ci := 6) (q0 := 0) rfl rfl) rfl rfl hl.1 rfl (lv_room (Nat.le_of_ble_eq_true rfl)) dX5_passedRow_3 ⟨(Nat.le_of_ble_eq_true rfl), (Nat.le_of_ble_eq_true rfl)⟩) hP hS (fun r3 H locs hw hP hS => ?_)
  have hP : va_P D vwCl ([(tb, .inr (6, [.ref ro, .ref xp, wr, .int sv])), (ro, .inr (0, [.int mod, .ref ea, .int (nI ln)]))] ++ (ltail cy ea na fl rs)) H := hP
  replace hw : r3 = fp_pk q ln 0 k := hw
  exact W.iret hx hb hr (fun t ht hW => ⟨⟨_, (), rfl, hw, trivial⟩, hS.F ht⟩) hS.2.2 dX5_passedRow_6

set_option maxHeartbeats 4000000 in
set_option maxRecDepth 100000 in
theorem c_Table_find (l : Launch) (D : va_G) (cy : Nat → ClassId) (e : Nat → Nat)  (tb : Nat) (ro : Nat) (xp : Nat) (wr : Value) (sv : Int32) (mod : Int32) (ea : Nat) (ln : Nat) (na : Nat) (fl : Nat → Option Nat) (rs : List rwT) (k : Int32) (hls : lsok e ea na fl rs) (hna : na ≤ 60) (hln : rs.length = ln) : Met l yX5_find wsX5_find ({ frames := 3, cells := 0, slots := 0, locals := 64 }) (va_Pc [.ref tb, .int k] (pu_B D cy e ([(tb, .inr (6, [.ref ro, .ref xp, wr, .int sv])), (ro, .inr (0, [.int mod, .ref ea, .int (nI ln)]))] ++ (ltail cy ea na fl rs)))) (va_Qq (fun (r : Option Nat) (_ : Unit) => (r = none ∧ fp_rq ln k) ∨ ∃ pre x post, rs = pre ++ x :: post ∧ r = some x.1 ∧ k = nI (pre.length + 1)) (fun _ _ => True) (fun _ => False)) 0 0 (fun _ => False) := by
  refine Met.ofW (cc := cX5_find) (maxL := 2) (ret := (some (.object "InterlockTables$Row"))) (by decide) rfl ?_
  intro p ev s m args below meth c s₁ B hml hv
  obtain ⟨rfl, hP, hK, hG⟩ := hv
  have hx := B.exec
  have hb := B.bytes
  have hr := B.returns
  have hts := atoms_spec (ws := wsX5_find) B.pre
  have hown : s.vm.findClass RX5 = some m.cls := findClass_of_methodNamed B.named
  have hlocks := B.notSynchronized
  have hS : va_S (fun _ => False) s.heap s.heap [] := va_S.rf
  have hP : va_P D vwCl ([(tb, .inr (6, [.ref ro, .ref xp, wr, .int sv])), (ro, .inr (0, [.int mod, .ref ea, .int (nI ln)]))] ++ (ltail cy ea na fl rs)) s.heap := hP
  have iX5 : ∀ w ∈ wsX50, w ∈ wsX5_find := fun w h => List.mem_cons_of_mem _ (List.mem_append_left _ (List.mem_append_right _ h))
  have iJx4a65c : ∀ w ∈ wsJx4a65c0, w ∈ wsX5_find := fun w h => List.mem_cons_of_mem _ (List.mem_append_right _ h)
  have hl := lv_entry ([.ref tb, .int k]) (n := 2) (Nat.le_of_ble_eq_true rfl)
  rw [lg_entry_eq]
  generalize (lg_sl ([.ref tb, .int k]) ++ List.replicate (2 - (lg_sl ([.ref tb, .int k])).length) Slot.unset).toArray = ls at hl ⊢
  have hl : lv_has ls 2 [(0, .ref tb), (1, .int k)] := hl
  refine lv_iload_n hx hb dX5_find_0 rfl (lv_at hl 1 rfl) ?_
  refine lv_iconst (v := 1) hx hb dX5_find_1 (by decide +kernel) ?_
  refine lv_icmp_lt (tgt := 16) hx hb dX5_find_2 (by decide) (fun c2 => ?_) (fun c2 => ?_)
  · refine lv_null hx hb dX5_find_16 ?_
    refine lv_goto (tgt := 33) hx hb dX5_find_17 (by decide) ?_
    exact W.aret hx hb hr (Or.inl ⟨_, rfl⟩) (Or.inl rfl) (fun t ht hW => ⟨⟨none, (), rfl, Or.inl ⟨rfl, Or.inl c2⟩, trivial⟩, hS.F ht⟩) hS.2.2 dX5_find_33
  · refine lv_iload_n hx hb dX5_find_5 rfl (lv_at hl 1 rfl) ?_
    refine lv_aload_n hx hb dX5_find_6 rfl (lv_at hl 0 rfl) ?_
    refine va_get (D := D) (ci := 6) (v := .ref ro) (C := RX5) (T := TX5) (N := 4) hx hb hts iX5 hown hK hP 0 rfl rfl 0 (by decide) (hts (.fieldLink RX5 12 "InterlockTables$Table" "rows" "Ljava/util/ArrayList;") (by decide +kernel)) (fun _ h9 => h9) rfl dX5_find_7 ?_
    refine pu_calli (va_runV (As := []) (rest := [.int k]) ⟨hx, hb, hml, hown, hts⟩ (c_AL_size l D cy e ro mod (.ref ea) (nI ln) ) (cwV 0 hts gX5_find_Jx4a65c_size_8abf5 rfl rfl rfl (by decide +kernel) ⟨Nat.le_of_ble_eq_true rfl, Nat.le_of_ble_eq_true rfl⟩) (pu_preV hP hK hS hG [1] rfl (q := (RJx4a65c, TJx4a65c, 3)) (ci := 0) (q0 := 1) rfl rfl) rfl rfl hl.1 rfl (lv_room (Nat.le_of_ble_eq_true rfl)) dX5_find_10 ⟨(Nat.le_of_ble_eq_true rfl), (Nat.le_of_ble_eq_true rfl)⟩) hP hS (fun H locs hP hS => ?_)
    have hP : va_P D vwCl ([(tb, .inr (6, [.ref ro, .ref xp, wr, .int sv])), (ro, .inr (0, [.int mod, .ref ea, .int (nI ln)]))] ++ (ltail cy ea na fl rs)) H := hP
    refine lv_icmp_le (tgt := 20) hx hb dX5_find_13 (by decide) (fun c13 => ?_) (fun c13 => ?_)
    · obtain ⟨kn, hkn⟩ : ∃ kn : Nat, k = nI (kn + 1) ∧ kn < ln := fd_ix c2 c13 (by have h9 := hls.2.2.1; omega)
      obtain ⟨rfl, hkl⟩ := hkn
      have hl : lv_has ls 2 [(0, .ref tb), (1, .int (nI (kn + 1)))] := hl
      refine lv_aload_n hx hb dX5_find_20 rfl (lv_at hl 0 rfl) ?_
      refine va_get (D := D) (ci := 6) (v := .ref ro) (C := RX5) (T := TX5) (N := 4) hx hb hts iX5 hown hK hP 0 rfl rfl 0 (by decide) (hts (.fieldLink RX5 12 "InterlockTables$Table" "rows" "Ljava/util/ArrayList;") (by decide +kernel)) (fun _ h9 => h9) rfl dX5_find_21 ?_
      refine lv_iload_n hx hb dX5_find_24 rfl (lv_at hl 1 rfl) ?_
      refine lv_iconst (v := 1) hx hb dX5_find_25 (by decide +kernel) ?_
      refine lv_isub hx hb dX5_find_26 ?_
      refine lv_topi (fun x_1 ex_1 => ?_)
      obtain rfl : x_1 = nI kn := by rw [ex_1]; exact pk_pred
      obtain ⟨pre, xx, post, hrs, hpl⟩ := foc_split (rs := rs) (i := kn) (by omega)
      obtain ⟨ra, ab, fi, fa⟩ := xx
      subst hrs
      replace hP : va_P D vwCl ([(tb, .inr (6, [.ref ro, .ref xp, wr, .int sv])), (ro, .inr (0, [.int mod, .ref ea, .int (nI ln)])), (ea, .inl (cy 5, na, .inr (.inr (.inr (.inr fl))))), (ra, .inr (4, [.ref ab, .int (fi 1), .int (fi 2), .int (fi 3), .int (fi 4), .int (fi 5), .int (fi 6), .int (fi 7), .int (fi 8), .int (fi 9), .int (fi 10), .int (fi 11), .int (fi 12)])), (ab, .inl (cy 1, 8, .inl fa))] ++ (rpool cy (pre ++ post))) H := tl_Pp (foc_perm (X := [(tb, .inr (6, [.ref ro, .ref xp, wr, .int sv])), (ro, .inr (0, [.int mod, .ref ea, .int (nI ln)]))])) hP
      refine pu_callq (va_runV (As := [.int (nI kn)]) (rest := []) ⟨hx, hb, hml, hown, hts⟩ (c_get l D cy e ro mod ea ln na fl kn ra (by have h9 := hls.2.2.1; omega) (by rw [← hpl]; exact ls_at hls)) (cwV 1 hts gX5_find_Jx4a65c_get_915e3 rfl rfl rfl (by decide +kernel) ⟨Nat.le_of_ble_eq_true rfl, Nat.le_of_ble_eq_true rfl⟩) (pu_preV hP hK hS hG [1, 2] rfl (q := (RJx4a65c, TJx4a65c, 3)) (ci := 0) (q0 := 1) rfl rfl) rfl rfl hl.1 rfl (lv_room (Nat.le_of_ble_eq_true rfl)) dX5_find_27 ⟨(Nat.le_of_ble_eq_true rfl), (Nat.le_of_ble_eq_true rfl)⟩) hP hS (fun H locs hP hS => ?_)
      have hP : va_P D vwCl ([(tb, .inr (6, [.ref ro, .ref xp, wr, .int sv])), (ro, .inr (0, [.int mod, .ref ea, .int (nI ln)])), (ea, .inl (cy 5, na, .inr (.inr (.inr (.inr fl))))), (ra, .inr (4, [.ref ab, .int (fi 1), .int (fi 2), .int (fi 3), .int (fi 4), .int (fi 5), .int (fi 6), .int (fi 7), .int (fi 8), .int (fi 9), .int (fi 10), .int (fi 11), .int (fi 12)])), (ab, .inl (cy 1, 8, .inl fa))] ++ (rpool cy (pre ++ post))) H := hP
      refine va_castY (C := RX3) hx hb hown (hts (.classLink RX5 35 RX3) (by decide +kernel)) hG.gX.2.2.2.2.2.1 (va_recv hK hP (q := (RX3, TX3, 13)) (ci := 4) (q0 := 3) rfl rfl) dX5_find_30 ?_
      exact W.aret hx hb hr (Or.inl ⟨_, rfl⟩) (Or.inr ⟨_, rfl⟩) (fun t ht hW => ⟨⟨some ra, (), rfl, Or.inr ⟨pre, (ra, ab, fi, fa), post, rfl, rfl, by rw [hpl]⟩, trivial⟩, hS.F ht⟩) hS.2.2 dX5_find_33
    · refine lv_null hx hb dX5_find_16 ?_
      refine lv_goto (tgt := 33) hx hb dX5_find_17 (by decide) ?_
      exact W.aret hx hb hr (Or.inl ⟨_, rfl⟩) (Or.inl rfl) (fun t ht hW => ⟨⟨none, (), rfl, Or.inl ⟨rfl, Or.inr (Int32.not_le.mp c13)⟩, trivial⟩, hS.F ht⟩) hS.2.2 dX5_find_33
