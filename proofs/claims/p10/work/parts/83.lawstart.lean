-- deps: 81
theorem law_arr {s : State} {args : Array Value} {ty : FieldType} (h : (Cond.arrayClass ty).before args s = true) (hty : ∀ C, ty ≠ .object C) : ∃ cA : ClassId, ArrOfT s cA ty ∧ va_RA s cA ty := by
  obtain ⟨cA, kA, comp, h1, h2, h3⟩ := Cond.arrayClass_spec h
  refine ⟨cA, fun n z => ⟨fun k h => (by cases h), kA, h2, comp, h3⟩, ?_⟩
  cases ty with
  | object C => exact absurd rfl (hty C)
  | _ => exact h1
theorem eq_ref {args : Array Value} {s : State} {t1 t2 : Term} {a : Nat} (h : (Cond.eq t1 t2).before args s = true) (h1 : t1.eval args s none [] s = some (.ref a)) : t2.eval args s none [] s = some (.ref a) := by
  cases hv : t2.eval args s none [] s with
  | none => simp [Cond.before, Cond.holds, Cond.value, hv, h1] at h
  | some w =>
    simp only [Cond.before, Cond.holds, Cond.value, hv, h1] at h
    cases w <;> simp_all

def stm (i : Nat) : Term := [Term.string "InterlockTables$Words" 66, Term.string "InterlockTables$Words" 72, Term.string "InterlockTables$Words" 74, Term.string "InterlockTables$Words" 76, Term.string "InterlockTables$Words" 78, Term.string "InterlockTables$Words" 80, Term.string "InterlockTables$Words" 82, Term.string "InterlockTables$Writer" 36, Term.string "InterlockTables$Writer" 77, Term.string "InterlockTables$Writer" 99, Term.string "InterlockTables$Writer" 60].getD i (.int 0)
def sln : List Nat := [3, 4, 3, 7, 2, 3, 3, 1, 1, 1, 0]
theorem sln_len : ∀ i : Nat, i < 11 → sln.getD i 0 = (sbs.getD i []).length := by decide
theorem law_over {s : State} {args : Array Value} (h : (Cond.arrayOver (.object "java/lang/Object")).before args s = true) : ∃ cA : ClassId, ArrOfT s cA (.object "java/lang/Object") ∧ va_RA s cA (.object "java/lang/Object") := by
  obtain ⟨comp, c, k, h1, _, h3, h4, h5⟩ := Cond.arrayOver_spec h
  exact ⟨c, fun n z => ⟨fun k h => (by cases h), k, h3, comp, h4⟩, k, comp, h3, h4, h1, h5⟩
def lwc : List Cond := flatC (Jvm.Cond.and given_1 narrow_1)
set_option maxRecDepth 100000 in
theorem tx_1 : ∀ i : Nat, i < 11 → Cond.exactly (stm i) "java/lang/String" ∈ lwc := by decide +kernel
set_option maxRecDepth 100000 in
theorem tx_2 : ∀ i : Nat, i < 11 → Cond.eq (.field (stm i) "java/lang/String" "coder" "B") (.int 0) ∈ lwc := by decide +kernel
set_option maxRecDepth 100000 in
theorem tx_3 : ∀ i : Nat, i < 11 → Cond.arrayOf (.field (stm i) "java/lang/String" "value" "[B") .byte ∈ lwc := by decide +kernel
set_option maxRecDepth 100000 in
theorem tx_4 : ∀ i : Nat, i < 11 → Cond.eq (.length (.field (stm i) "java/lang/String" "value" "[B")) (.int (Int32.ofNat (sln.getD i 0))) ∈ lwc := by decide +kernel
set_option maxRecDepth 100000 in
theorem tx_5 : ∀ i : Nat, i < 11 → ∀ j : Nat, j < sln.getD i 0 → Cond.eq (.elem (.field (stm i) "java/lang/String" "value" "[B") (.int (Int32.ofNat j))) (.int ((sbs.getD i []).getD j 0)) ∈ lwc := by decide +kernel
def nel : List (Nat × Nat × Nat) := [(0, 1, 38), (0, 2, 46), (0, 3, 59), (0, 4, 68), (0, 5, 79), (0, 6, 91), (0, 7, 116), (0, 8, 146), (0, 9, 217), (0, 10, 257), (1, 2, 47), (1, 3, 60), (1, 4, 69), (1, 5, 80), (1, 6, 92), (1, 7, 117), (1, 8, 147), (1, 9, 218), (1, 10, 258), (2, 3, 61), (2, 4, 70), (2, 5, 81), (2, 6, 93), (2, 7, 118), (2, 8, 148), (2, 9, 219), (2, 10, 259), (3, 4, 71), (3, 5, 82), (3, 6, 94), (3, 7, 119), (3, 8, 149), (3, 9, 220), (3, 10, 260), (4, 5, 83), (4, 6, 95), (4, 7, 120), (4, 8, 150), (4, 9, 221), (4, 10, 261), (5, 6, 96), (5, 7, 121), (5, 8, 151), (5, 9, 222), (5, 10, 262), (6, 7, 122), (6, 8, 152), (6, 9, 223), (6, 10, 263), (7, 8, 154), (7, 9, 225), (7, 10, 265), (8, 9, 227), (8, 10, 267), (9, 10, 271)]
set_option maxRecDepth 100000 in
theorem nel_ok : ∀ t ∈ nel, lwc[t.2.2]? = some (Cond.not (Cond.eq (stm t.1) (stm t.2.1))) := by decide +kernel
theorem nel_all : ∀ i : Nat, i < 11 → ∀ j : Nat, j < 11 → i ≠ j → (∃ t ∈ nel, t.1 = i ∧ t.2.1 = j) ∨ (∃ t ∈ nel, t.1 = j ∧ t.2.1 = i) := by decide +kernel
theorem tx_6 : ∀ i : Nat, i < 11 → ∀ j : Nat, j < 11 → i ≠ j → Cond.not (Cond.eq (stm i) (stm j)) ∈ lwc ∨ Cond.not (Cond.eq (stm j) (stm i)) ∈ lwc := by
  intro i hi j hj hne
  rcases nel_all i hi j hj hne with ⟨t, ht, rfl, rfl⟩ | ⟨t, ht, rfl, rfl⟩
  · exact Or.inl (List.mem_of_getElem? (nel_ok t ht))
  · exact Or.inr (List.mem_of_getElem? (nel_ok t ht))
/-- where what is there before lies -/
def ef (e0 e1 e2 : Nat) (adK adV : Nat → Nat) (k : Nat) : Nat := if k = 0 then e0 else if k = 1 then e1 else if k = 2 then e2 else if k < 30 then adK (k - 10) else adV (k - 30)
theorem ef_10 {e0 e1 e2 : Nat} {adK adV : Nat → Nat} {k : Nat} (h : k < 11) : ef e0 e1 e2 adK adV (10 + k) = adK k := by
  unfold ef
  rw [if_neg (by omega), if_neg (by omega), if_neg (by omega), if_pos (by omega), Nat.add_sub_cancel_left]
theorem ef_30 {e0 e1 e2 : Nat} {adK adV : Nat → Nat} {k : Nat} (h : k < 11) : ef e0 e1 e2 adK adV (30 + k) = adV k := by
  unfold ef
  rw [if_neg (by omega), if_neg (by omega), if_neg (by omega), if_neg (by omega), Nat.add_sub_cancel_left]

set_option maxHeartbeats 4000000 in
set_option maxRecDepth 100000 in
theorem law_start {s : State} {b : Nat} (hts : ∀ w ∈ lw_tbl, w.before #[Value.ref b] s = true) (hgv : (Jvm.Cond.and given_1 narrow_1).before #[Value.ref b] s = true) : ∃ (D : va_G) (cy : Nat → ClassId) (e : Nat → Nat), va_K D vwCl (TY cy) s ∧ gl_G e (fun q : Nat => s.heap.size ≤ q) s s.heap := by
  obtain ⟨c0, iS0, hKn0⟩ := u_known (C := RJx4a65c) (T := TJx4a65c) (N := 3) (n := 3) hts inJx4a65c (hts (.instantiable RJx4a65c 3) (List.mem_of_getElem? (i := 104) (by decide +kernel)))
  obtain ⟨c1, iS1, hKn1⟩ := u_known (C := RX0) (T := TX0) (N := 3) (n := 3) hts inX0 (hts (.instantiable RX0 3) (List.mem_of_getElem? (i := 81) (by decide +kernel)))
  obtain ⟨c2, iS2, hKn2⟩ := u_known (C := RX1) (T := TX1) (N := 3) (n := 3) hts inX1 (hts (.instantiable RX1 3) (List.mem_of_getElem? (i := 131) (by decide +kernel)))
  obtain ⟨c3, iS3, hKn3⟩ := u_known (C := RX2) (T := TX2) (N := 3) (n := 3) hts inX2 (hts (.instantiable RX2 3) (List.mem_of_getElem? (i := 332) (by decide +kernel)))
  obtain ⟨c4, iS4, hKn4⟩ := u_known (C := RX3) (T := TX3) (N := 13) (n := 13) hts inX3 (hts (.instantiable RX3 13) (List.mem_of_getElem? (i := 360) (by decide +kernel)))
  obtain ⟨c5, iS5, hKn5⟩ := u_known (C := RX4) (T := TX4) (N := 5) (n := 5) hts inX4 (hts (.instantiable RX4 5) (List.mem_of_getElem? (i := 655) (by decide +kernel)))
  obtain ⟨c6, iS6, hKn6⟩ := u_known (C := RX5) (T := TX5) (N := 4) (n := 4) hts inX5 (hts (.instantiable RX5 4) (List.mem_of_getElem? (i := 98) (by decide +kernel)))
  obtain ⟨c7, iS7, hKn7⟩ := u_known (C := RX6) (T := TX6) (N := 5) (n := 5) hts inX6 (hts (.instantiable RX6 5) (List.mem_of_getElem? (i := 205) (by decide +kernel)))
  obtain ⟨c8, iS8, hKn8⟩ := u_known (C := RX7) (T := TX7) (N := 3) (n := 3) hts inX7 (hts (.instantiable RX7 3) (List.mem_of_getElem? (i := 730) (by decide +kernel)))
  obtain ⟨c9, iS9, hKn9⟩ := u_known (C := RX8) (T := TX8) (N := 3) (n := 3) hts inX8 (hts (.instantiable RX8 3) (List.mem_of_getElem? (i := 73) (by decide +kernel)))
  obtain ⟨c10, iS10, hKn10⟩ := u_known (C := RX9) (T := TX9) (N := 32) (n := 32) hts inX9 (hts (.instantiable RX9 32) (List.mem_of_getElem? (i := 798) (by decide +kernel)))
  obtain ⟨y0, ya0, yb0⟩ := law_arr (hts (.arrayClass .byte) (List.mem_of_getElem? (i := 96) (by decide +kernel))) (by intro C h; cases h)
  obtain ⟨y1, ya1, yb1⟩ := law_arr (hts (.arrayClass .int) (List.mem_of_getElem? (i := 425) (by decide +kernel))) (by intro C h; cases h)
  obtain ⟨y2, ya2, yb2⟩ := law_arr (hts (.arrayClass .long) (List.mem_of_getElem? (i := 129) (by decide +kernel))) (by intro C h; cases h)
  obtain ⟨y3, ya3, yb3⟩ := law_arr (hts (.arrayClass .short) (List.mem_of_getElem? (i := 231) (by decide +kernel))) (by intro C h; cases h)
  obtain ⟨y4, ya4, yb4⟩ := law_arr (hts (.arrayClass .boolean) (List.mem_of_getElem? (i := 902) (by decide +kernel))) (by intro C h; cases h)
  have hsv := flat_of_before _ hgv
  have hold : ∀ a : Nat, a < s.heap.size → ¬ (fun q : Nat => s.heap.size ≤ q) a := fun a h => Nat.not_le.mpr h
  have hAO := (hts (.arrayOver (.object "java/lang/Object")) (List.mem_of_getElem? (i := 528) (by decide +kernel)))
  obtain ⟨y5, ya5, yb5⟩ := law_over hAO
  obtain ⟨e0, he0, hT0⟩ := va_Tof (tm := .static "java/util/ArrayList" "DEFAULTCAPACITY_EMPTY_ELEMENTDATA" "[Ljava/lang/Object;") (ty := .object "java/lang/Object") (N := 0) (f := fun _ => .null) (by decide) (hsv (.arrayOf (.static "java/util/ArrayList" "DEFAULTCAPACITY_EMPTY_ELEMENTDATA" "[Ljava/lang/Object;") (.object "java/lang/Object")) (by decide +kernel)) (va_eqt (hsv (.eq (.length (.static "java/util/ArrayList" "DEFAULTCAPACITY_EMPTY_ELEMENTDATA" "[Ljava/lang/Object;")) (.int 0)) (by decide +kernel))) (fun j hj => absurd hj (Nat.not_lt_zero _)) hold
  obtain ⟨e1, he1, hT1⟩ := va_Tof (tm := .static "InterlockTables" "PATTERNS" "[J") (ty := .long) (N := 6) (f := fun j => .long (pat j)) (by decide) (hsv (.arrayOf (.static "InterlockTables" "PATTERNS" "[J") .long) (by decide +kernel)) (va_eqt (hsv (.eq (.length (.static "InterlockTables" "PATTERNS" "[J")) (.int 6)) (by decide +kernel))) (fun j hj => by
    rcases (show j = 0 ∨ j = 1 ∨ j = 2 ∨ j = 3 ∨ j = 4 ∨ j = 5 by omega) with rfl | rfl | rfl | rfl | rfl | rfl
    · exact va_eqtl (hsv (.eq (.elem (.static "InterlockTables" "PATTERNS" "[J") (.int 0)) (.long (-6148914691236517206))) (by decide +kernel))
    · exact va_eqtl (hsv (.eq (.elem (.static "InterlockTables" "PATTERNS" "[J") (.int 1)) (.long (-3689348814741910324))) (by decide +kernel))
    · exact va_eqtl (hsv (.eq (.elem (.static "InterlockTables" "PATTERNS" "[J") (.int 2)) (.long (-1085102592571150096))) (by decide +kernel))
    · exact va_eqtl (hsv (.eq (.elem (.static "InterlockTables" "PATTERNS" "[J") (.int 3)) (.long (-71777214294589696))) (by decide +kernel))
    · exact va_eqtl (hsv (.eq (.elem (.static "InterlockTables" "PATTERNS" "[J") (.int 4)) (.long (-281470681808896))) (by decide +kernel))
    · exact va_eqtl (hsv (.eq (.elem (.static "InterlockTables" "PATTERNS" "[J") (.int 5)) (.long (-4294967296))) (by decide +kernel))) hold
  have hZ0 := va_Zof (hts (.laysStatic "java/util/ArrayList" "DEFAULTCAPACITY_EMPTY_ELEMENTDATA" "[Ljava/lang/Object;") (List.mem_of_getElem? (i := 116) (by decide +kernel))) (hts (.initialized "java/util/ArrayList") (List.mem_of_getElem? (i := 55) (by decide +kernel))) he0 hold
  have hZ1 := va_Zof (hts (.laysStatic "InterlockTables" "PATTERNS" "[J") (List.mem_of_getElem? (i := 688) (by decide +kernel))) (hts (.initialized "InterlockTables") (List.mem_of_getElem? (i := 50) (by decide +kernel))) he1 hold
  have hZ2 := va_Zof (hts (.laysStatic "java/lang/String" "COMPACT_STRINGS" "Z") (List.mem_of_getElem? (i := 267) (by decide +kernel))) (hts (.initialized "java/lang/String") (List.mem_of_getElem? (i := 62) (by decide +kernel))) (va_eqt (hsv (.eq (.static "java/lang/String" "COMPACT_STRINGS" "Z") (.int 1)) (by decide +kernel))) hold
  have hZ3 := va_Zqof (hts (.laysStatic "jdk/internal/util/Preconditions" "SIOOBE_FORMATTER" "Ljava/util/function/BiFunction;") (List.mem_of_getElem? (i := 283) (by decide +kernel))) (hts (.initialized "jdk/internal/util/Preconditions") (List.mem_of_getElem? (i := 64) (by decide +kernel))) (hsv (.isRef (.static "jdk/internal/util/Preconditions" "SIOOBE_FORMATTER" "Ljava/util/function/BiFunction;")) (by decide +kernel)) hold
  obtain ⟨e2, hM2⟩ := va_Mi.of (hsv (.isRef (.mirror "[Ljava/lang/Object;")) (by decide +kernel))
  have hN : ∀ q ∈ nsF, va_Nw (.fieldLinkNest q.1 q.2.1 q.2.2.1 q.2.2.2.1 q.2.2.2.2 "InterlockTables") s := by
    intro q hq
    have hm : Cond.fieldLinkNest q.1 q.2.1 q.2.2.1 q.2.2.2.1 q.2.2.2.2 "InterlockTables" ∈ nsF.map (fun q => Cond.fieldLinkNest q.1 q.2.1 q.2.2.1 q.2.2.2.1 q.2.2.2.2 "InterlockTables") := List.mem_map.mpr ⟨q, hq, rfl⟩
    exact va_Nw.of rfl (hts _ (tb_in [150, 151, 152, 154, 366, 368, 369, 370, 372, 373, 374, 375, 376, 377, 378, 379, 380, 381, 383, 384, 385, 386, 388, 390, 392, 394, 395, 396, 397, 687, 739] (by decide +kernel) _ hm))
  have hM : va_Nw (.methodLinkNest "InterlockTables$Reader" 38 yX3_init "InterlockTables") s := va_Nw.of rfl (hts _ (List.mem_of_getElem? (i := 361) (by decide +kernel)))
  have hC1 : va_Nw (.castable RX3 RX3) s := va_Nw.of rfl (hts (.castable RX3 RX3) (List.mem_of_getElem? (i := 1068) (by decide +kernel)))
  have hC2 : va_Nw (.castable RX3 "java/lang/Object") s := va_Nw.of rfl (hts (.castable RX3 "java/lang/Object") (List.mem_of_getElem? (i := 1079) (by decide +kernel)))
  have hDc : va_Dc s := va_Dc.of (hts (.declares ⟨"java/lang/Object", "getClass", "()Ljava/lang/Class;"⟩) (List.mem_of_getElem? (i := 1071) (by decide +kernel)))
  have hsw : ∀ w ∈ lwc, w.before #[Value.ref b] s = true := hsv
  obtain ⟨adK, adV, hSS, hSe⟩ := vk_Sof (A := fun q : Nat => s.heap.size ≤ q) (args := #[Value.ref b]) (s := s) (N := 11) (tm := stm) (len := sln) (byt := sbs) (by decide) (fun i hi => hsw _ (tx_1 i hi)) (fun i hi => hsw _ (tx_2 i hi)) (fun i hi => hsw _ (tx_3 i hi)) (fun i hi => hsw _ (tx_4 i hi)) (fun i hi j hj => hsw _ (tx_5 i hi j hj)) (fun i j hi hj hne => (tx_6 i hi j hj hne).elim (fun h => Or.inl (hsw _ h)) (fun h => Or.inr (hsw _ h))) hold
  have hX1 : ∀ k, k < 11 → st_1 (sbs.getD k []) (ef e0 e1 e2 adK adV (10 + k)) (ef e0 e1 e2 adK adV (30 + k)) (fun q : Nat => s.heap.size ≤ q) s s.heap := by
    intro k hk
    rw [ef_10 hk, ef_30 hk]
    obtain ⟨g1, g2, g3, g4⟩ := hSS.1 k hk
    rw [sln_len k hk] at g4
    exact ⟨g1, g2, g3, g4⟩
  have hX2 : ∀ q ∈ strL, vk_R q.1 q.2.1 q.2.2.1 (ef e0 e1 e2 adK adV (10 + q.2.2.2)) s := by
    intro q hq
    simp only [strL, List.mem_cons, List.not_mem_nil, or_false] at hq
    rcases hq with rfl | rfl | rfl | rfl | rfl | rfl | rfl | rfl | rfl | rfl | rfl | rfl | rfl | rfl | rfl | rfl | rfl | rfl
    · show vk_R "InterlockTables$Words" 66 "bar" (ef e0 e1 e2 adK adV (10 + 0)) s
      rw [ef_10 (by decide)]
      exact vk_R.of (hts (.stringRef "InterlockTables$Words" 66 "bar") (List.mem_of_getElem? (i := 254) (by decide +kernel))) (hSe 0 (by decide))
    · show vk_R "InterlockTables$Words" 72 "when" (ef e0 e1 e2 adK adV (10 + 1)) s
      rw [ef_10 (by decide)]
      exact vk_R.of (hts (.stringRef "InterlockTables$Words" 72 "when") (List.mem_of_getElem? (i := 306) (by decide +kernel))) (hSe 1 (by decide))
    · show vk_R "InterlockTables$Words" 74 "for" (ef e0 e1 e2 adK adV (10 + 2)) s
      rw [ef_10 (by decide)]
      exact vk_R.of (hts (.stringRef "InterlockTables$Words" 74 "for") (List.mem_of_getElem? (i := 307) (by decide +kernel))) (hSe 2 (by decide))
    · show vk_R "InterlockTables$Words" 76 "latched" (ef e0 e1 e2 adK adV (10 + 3)) s
      rw [ef_10 (by decide)]
      exact vk_R.of (hts (.stringRef "InterlockTables$Words" 76 "latched") (List.mem_of_getElem? (i := 308) (by decide +kernel))) (hSe 3 (by decide))
    · show vk_R "InterlockTables$Words" 78 "or" (ef e0 e1 e2 adK adV (10 + 4)) s
      rw [ef_10 (by decide)]
      exact vk_R.of (hts (.stringRef "InterlockTables$Words" 78 "or") (List.mem_of_getElem? (i := 309) (by decide +kernel))) (hSe 4 (by decide))
    · show vk_R "InterlockTables$Words" 80 "and" (ef e0 e1 e2 adK adV (10 + 5)) s
      rw [ef_10 (by decide)]
      exact vk_R.of (hts (.stringRef "InterlockTables$Words" 80 "and") (List.mem_of_getElem? (i := 310) (by decide +kernel))) (hSe 5 (by decide))
    · show vk_R "InterlockTables$Words" 82 "not" (ef e0 e1 e2 adK adV (10 + 6)) s
      rw [ef_10 (by decide)]
      exact vk_R.of (hts (.stringRef "InterlockTables$Words" 82 "not") (List.mem_of_getElem? (i := 311) (by decide +kernel))) (hSe 6 (by decide))
    · show vk_R "InterlockTables$Writer" 24 "bar" (ef e0 e1 e2 adK adV (10 + 0)) s
      rw [ef_10 (by decide)]
      exact vk_R.of (hts (.stringRef "InterlockTables$Writer" 24 "bar") (List.mem_of_getElem? (i := 752) (by decide +kernel))) (eq_ref (hsw (.eq (.string "InterlockTables$Words" 66) (.string "InterlockTables$Writer" 24)) (by decide +kernel)) (hSe 0 (by decide)))
    · show vk_R "InterlockTables$Writer" 36 "a" (ef e0 e1 e2 adK adV (10 + 7)) s
      rw [ef_10 (by decide)]
      exact vk_R.of (hts (.stringRef "InterlockTables$Writer" 36 "a") (List.mem_of_getElem? (i := 760) (by decide +kernel))) (hSe 7 (by decide))
    · show vk_R "InterlockTables$Writer" 45 "when" (ef e0 e1 e2 adK adV (10 + 1)) s
      rw [ef_10 (by decide)]
      exact vk_R.of (hts (.stringRef "InterlockTables$Writer" 45 "when") (List.mem_of_getElem? (i := 766) (by decide +kernel))) (eq_ref (hsw (.eq (.string "InterlockTables$Words" 72) (.string "InterlockTables$Writer" 45)) (by decide +kernel)) (hSe 1 (by decide)))
    · show vk_R "InterlockTables$Writer" 77 "(" (ef e0 e1 e2 adK adV (10 + 8)) s
      rw [ef_10 (by decide)]
      exact vk_R.of (hts (.stringRef "InterlockTables$Writer" 77 "(") (List.mem_of_getElem? (i := 771) (by decide +kernel))) (hSe 8 (by decide))
    · show vk_R "InterlockTables$Writer" 84 "not" (ef e0 e1 e2 adK adV (10 + 6)) s
      rw [ef_10 (by decide)]
      exact vk_R.of (hts (.stringRef "InterlockTables$Writer" 84 "not") (List.mem_of_getElem? (i := 773) (by decide +kernel))) (eq_ref (hsw (.eq (.string "InterlockTables$Words" 82) (.string "InterlockTables$Writer" 84)) (by decide +kernel)) (hSe 6 (by decide)))
    · show vk_R "InterlockTables$Writer" 95 "and" (ef e0 e1 e2 adK adV (10 + 5)) s
      rw [ef_10 (by decide)]
      exact vk_R.of (hts (.stringRef "InterlockTables$Writer" 95 "and") (List.mem_of_getElem? (i := 786) (by decide +kernel))) (eq_ref (hsw (.eq (.string "InterlockTables$Words" 80) (.string "InterlockTables$Writer" 95)) (by decide +kernel)) (hSe 5 (by decide)))
    · show vk_R "InterlockTables$Writer" 97 "or" (ef e0 e1 e2 adK adV (10 + 4)) s
      rw [ef_10 (by decide)]
      exact vk_R.of (hts (.stringRef "InterlockTables$Writer" 97 "or") (List.mem_of_getElem? (i := 787) (by decide +kernel))) (eq_ref (hsw (.eq (.string "InterlockTables$Words" 78) (.string "InterlockTables$Writer" 97)) (by decide +kernel)) (hSe 4 (by decide)))
    · show vk_R "InterlockTables$Writer" 99 "c" (ef e0 e1 e2 adK adV (10 + 9)) s
      rw [ef_10 (by decide)]
      exact vk_R.of (hts (.stringRef "InterlockTables$Writer" 99 "c") (List.mem_of_getElem? (i := 788) (by decide +kernel))) (hSe 9 (by decide))
    · show vk_R "InterlockTables$Writer" 58 "for" (ef e0 e1 e2 adK adV (10 + 2)) s
      rw [ef_10 (by decide)]
      exact vk_R.of (hts (.stringRef "InterlockTables$Writer" 58 "for") (List.mem_of_getElem? (i := 789) (by decide +kernel))) (eq_ref (hsw (.eq (.string "InterlockTables$Words" 74) (.string "InterlockTables$Writer" 58)) (by decide +kernel)) (hSe 2 (by decide)))
    · show vk_R "InterlockTables$Writer" 60 "" (ef e0 e1 e2 adK adV (10 + 10)) s
      rw [ef_10 (by decide)]
      exact vk_R.of (hts (.stringRef "InterlockTables$Writer" 60 "") (List.mem_of_getElem? (i := 790) (by decide +kernel))) (hSe 10 (by decide))
    · show vk_R "InterlockTables$Writer" 68 "latched" (ef e0 e1 e2 adK adV (10 + 3)) s
      rw [ef_10 (by decide)]
      exact vk_R.of (hts (.stringRef "InterlockTables$Writer" 68 "latched") (List.mem_of_getElem? (i := 791) (by decide +kernel))) (eq_ref (hsw (.eq (.string "InterlockTables$Words" 76) (.string "InterlockTables$Writer" 68)) (by decide +kernel)) (hSe 3 (by decide)))
  refine ⟨(fun k => if k = 0 then c0 else if k = 1 then c1 else if k = 2 then c2 else if k = 3 then c3 else if k = 4 then c4 else if k = 5 then c5 else if k = 6 then c6 else if k = 7 then c7 else if k = 8 then c8 else if k = 9 then c9 else c10, fun k => if k = 0 then iS0 else if k = 1 then iS1 else if k = 2 then iS2 else if k = 3 then iS3 else if k = 4 then iS4 else if k = 5 then iS5 else if k = 6 then iS6 else if k = 7 then iS7 else if k = 8 then iS8 else if k = 9 then iS9 else iS10), fun k => if k = 0 then y0 else if k = 1 then y1 else if k = 2 then y2 else if k = 3 then y3 else if k = 4 then y4 else y5, ef e0 e1 e2 adK adV, ⟨?_, ?_⟩, hZ0, hZ1, hT1, ⟨hN, hM⟩, hX1, hX2, hZ2, hZ3, hT0, hC1, hC2, va_AO.of hAO, hM2, hDc⟩
  · intro k q hq
    match k, hq with
    | 0, hq => cases hq; exact hKn0
    | 1, hq => cases hq; exact hKn1
    | 2, hq => cases hq; exact hKn2
    | 3, hq => cases hq; exact hKn3
    | 4, hq => cases hq; exact hKn4
    | 5, hq => cases hq; exact hKn5
    | 6, hq => cases hq; exact hKn6
    | 7, hq => cases hq; exact hKn7
    | 8, hq => cases hq; exact hKn8
    | 9, hq => cases hq; exact hKn9
    | 10, hq => cases hq; exact hKn10
    | k + 11, hq => simp [vwCl] at hq
  · intro k q hq
    match k, hq with
    | 0, hq => cases hq; exact ⟨ya0, yb0⟩
    | 1, hq => cases hq; exact ⟨ya1, yb1⟩
    | 2, hq => cases hq; exact ⟨ya2, yb2⟩
    | 3, hq => cases hq; exact ⟨ya3, yb3⟩
    | 4, hq => cases hq; exact ⟨ya4, yb4⟩
    | 5, hq => cases hq; exact ⟨ya5, yb5⟩
    | k + 6, hq => simp at hq
