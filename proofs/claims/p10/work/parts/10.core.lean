
/-- the array classes, by number: byte, int, long, short, boolean -/
abbrev TY (cy : Nat → ClassId) : List (ClassId × FieldType) := [(cy 0, .byte), (cy 1, .int), (cy 2, .long), (cy 3, .short), (cy 4, .boolean), (cy 5, .object "java/lang/Object")]
/-- the fields of nest mates that are linked: own class, pool place, class, name, descriptor -/
def nsF : List (String × Nat × String × String × String) := [("InterlockTables$Reader", 70, "InterlockTables$Table", "rows", "Ljava/util/ArrayList;"), ("InterlockTables$Survey", 76, "InterlockTables$Table", "rows", "Ljava/util/ArrayList;"), ("InterlockTables$Reader", 19, "InterlockTables$Table", "expressions", "LInterlockTables$Expressions;"), ("InterlockTables$Survey", 55, "InterlockTables$Table", "expressions", "LInterlockTables$Expressions;"), ("InterlockTables$Writer", 30, "InterlockTables$Row", "actCount", "I"), ("InterlockTables$Reader", 89, "InterlockTables$Row", "actCount", "I"), ("InterlockTables$Survey", 100, "InterlockTables$Row", "actCount", "I"), ("InterlockTables", 104, "InterlockTables$Row", "actCount", "I"), ("InterlockTables$Reader", 113, "InterlockTables$Row", "conditionCount", "I"), ("InterlockTables", 119, "InterlockTables$Row", "conditionCount", "I"), ("InterlockTables$Reader", 52, "InterlockTables$Row", "codeFrom", "I"), ("InterlockTables$Table", 41, "InterlockTables$Row", "codeFrom", "I"), ("InterlockTables$Writer", 47, "InterlockTables$Row", "codeTo", "I"), ("InterlockTables$Reader", 60, "InterlockTables$Row", "codeTo", "I"), ("InterlockTables$Table", 45, "InterlockTables$Row", "codeTo", "I"), ("InterlockTables$Writer", 54, "InterlockTables$Row", "hasFor", "Z"), ("InterlockTables$Reader", 92, "InterlockTables$Row", "hasFor", "Z"), ("InterlockTables$Writer", 62, "InterlockTables$Row", "number", "I"), ("InterlockTables$Reader", 95, "InterlockTables$Row", "number", "I"), ("InterlockTables", 107, "InterlockTables$Row", "number", "I"), ("InterlockTables$Writer", 65, "InterlockTables$Row", "mayLatch", "Z"), ("InterlockTables$Reader", 66, "InterlockTables$Row", "mayLatch", "Z"), ("InterlockTables", 110, "InterlockTables$Row", "mayLatch", "Z"), ("InterlockTables", 117, "InterlockTables$Row", "count", "I"), ("InterlockTables", 93, "InterlockTables$Row", "latched", "Z"), ("InterlockTables", 83, "InterlockTables$Row", "passLeft", "I"), ("InterlockTables$Table", 83, "InterlockTables$Row", "passLeft", "I"), ("InterlockTables$Survey", 96, "InterlockTables$Row", "everFirst", "Z"), ("InterlockTables$Table", 86, "InterlockTables$Row", "everFirst", "Z"), ("InterlockTables$Survey", 33, "InterlockTables", "PATTERNS", "[J"), ("InterlockTables$Table", 102, "InterlockTables$Writer", "out", "LInterlockTables$Bytes;")]
def gl_N (U : State) : Prop := (∀ q ∈ nsF, va_Nw (.fieldLinkNest q.1 q.2.1 q.2.2.1 q.2.2.2.1 q.2.2.2.2 "InterlockTables") U) ∧ va_Nw (.methodLinkNest "InterlockTables$Reader" 38 yX3_init "InterlockTables") U
theorem gl_N.warm {s U : State} (hW : s.WarmedH U.vm) (h : gl_N s) : gl_N U := ⟨fun q hq => va_Nw.warmF hW (h.1 q hq), va_Nw.warmM hW h.2⟩
theorem gl_N.same {s U : State} (hW : s.vm = U.vm) (h : gl_N s) : gl_N U := ⟨fun q hq => va_Nw.same rfl hW (h.1 q hq), va_Nw.same rfl hW h.2⟩
theorem gl_N.f {s : State} {args : Array Value} (h : gl_N s) (k : Nat) {a b n d : String} {i : Nat} (hk : nsF[k]? = some (a, i, b, n, d)) : (Cond.fieldLinkNest a i b n d "InterlockTables").before args s = true := va_Nw.use rfl (h.1 _ (List.mem_of_getElem? hk))
/-- the class's own six patterns -/
def pat (j : Nat) : Int64 := match j with
  | 0 => -6148914691236517206
  | 1 => -3689348814741910324
  | 2 => -1085102592571150096
  | 3 => -71777214294589696
  | 4 => -281470681808896
  | _ => -4294967296
/-- the class's words, as texts: eleven different ones, their bytes -/
def sbs : List (List Int32) := [[98, 97, 114], [119, 104, 101, 110], [102, 111, 114], [108, 97, 116, 99, 104, 101, 100], [111, 114], [97, 110, 100], [110, 111, 116], [97], [40], [99], []]
def strL : List (String × Nat × String × Nat) := [("InterlockTables$Words", 66, "bar", 0), ("InterlockTables$Words", 72, "when", 1), ("InterlockTables$Words", 74, "for", 2), ("InterlockTables$Words", 76, "latched", 3), ("InterlockTables$Words", 78, "or", 4), ("InterlockTables$Words", 80, "and", 5), ("InterlockTables$Words", 82, "not", 6), ("InterlockTables$Writer", 24, "bar", 0), ("InterlockTables$Writer", 36, "a", 7), ("InterlockTables$Writer", 45, "when", 1), ("InterlockTables$Writer", 77, "(", 8), ("InterlockTables$Writer", 84, "not", 6), ("InterlockTables$Writer", 95, "and", 5), ("InterlockTables$Writer", 97, "or", 4), ("InterlockTables$Writer", 99, "c", 9), ("InterlockTables$Writer", 58, "for", 2), ("InterlockTables$Writer", 60, "", 10), ("InterlockTables$Writer", 68, "latched", 3)]
/-- a text that is there: its cell, its bytes -/
def st_1 (bs : List Int32) (a av : Nat) (A : Nat → Prop) (U : State) (H : Heap) : Prop := va_O "java/lang/String" a A U H ∧ va_OF "java/lang/String" "coder" "B" (.int 0) a A U H ∧ va_OF "java/lang/String" "value" "[B" (.ref av) a A U H ∧ va_T .byte av bs.length (fun j => .int (bs.getD j 0)) A U H
theorem st_1.kept {bs : List Int32} {a av : Nat} {A : Nat → Prop} {U : State} {H H1 : Heap} (h : st_1 bs a av A U H) (hq : ∀ a : Nat, a < H.size → ¬ A a → H1[a]? = H[a]?) : st_1 bs a av A U H1 := ⟨h.1.kept hq, h.2.1.kept hq, h.2.2.1.kept hq, h.2.2.2.kept hq⟩
theorem st_1.narrow {bs : List Int32} {a av : Nat} {A B : Nat → Prop} {U : State} {H : Heap} (h : st_1 bs a av A U H) (hAB : ∀ q, B q → A q) : st_1 bs a av B U H := ⟨h.1.narrow hAB, h.2.1.narrow hAB, h.2.2.1.narrow hAB, h.2.2.2.narrow hAB⟩
theorem st_1.moved {bs : List Int32} {a av : Nat} {A : Nat → Prop} {u U : State} {H : Heap} (hW : u.vm.Alike U.vm) (h : st_1 bs a av A u H) : st_1 bs a av A U H := ⟨h.1.moved hW, h.2.1.moved hW, h.2.2.1.moved hW, h.2.2.2.moved hW⟩
/-- the rest of what is there: texts, two statics, the empty array, casts, the class of Object[] -/
def gl_X (e : Nat → Nat) (A : Nat → Prop) (U : State) (H : Heap) : Prop := (∀ k, k < 11 → st_1 (sbs.getD k []) (e (10 + k)) (e (30 + k)) A U H) ∧ (∀ q ∈ strL, vk_R q.1 q.2.1 q.2.2.1 (e (10 + q.2.2.2)) U) ∧ va_Z "java/lang/String" "COMPACT_STRINGS" "Z" (.int 1) A U H ∧ va_Zq "jdk/internal/util/Preconditions" "SIOOBE_FORMATTER" "Ljava/util/function/BiFunction;" A U H ∧ va_T (.object "java/lang/Object") (e 0) 0 (fun _ => .null) A U H ∧ va_Nw (.castable RX3 RX3) U ∧ va_Nw (.castable RX3 "java/lang/Object") U ∧ va_AO "java/lang/Object" U ∧ va_Mi "[Ljava/lang/Object;" (e 2) U ∧ va_Dc U
theorem gl_X.kept {e : Nat → Nat} {A : Nat → Prop} {U : State} {H H1 : Heap} (h : gl_X e A U H) (hq : ∀ a : Nat, a < H.size → ¬ A a → H1[a]? = H[a]?) : gl_X e A U H1 := by
  obtain ⟨a1, a2, a3, a4, a5, a6⟩ := h
  exact ⟨fun k hk => (a1 k hk).kept hq, a2, a3.kept hq, a4.kept hq, a5.kept hq, a6⟩
theorem gl_X.narrow {e : Nat → Nat} {A B : Nat → Prop} {U : State} {H : Heap} (h : gl_X e A U H) (hAB : ∀ q, B q → A q) : gl_X e B U H := by
  obtain ⟨a1, a2, a3, a4, a5, a6⟩ := h
  exact ⟨fun k hk => (a1 k hk).narrow hAB, a2, a3.narrow hAB, a4.narrow hAB, a5.narrow hAB, a6⟩
theorem gl_X.warm {e : Nat → Nat} {A : Nat → Prop} {s U : State} {H : Heap} (hW : s.WarmedH U.vm) (h : gl_X e A s H) : gl_X e A U H := by
  obtain ⟨a1, a2, a3, a4, a5, a6, a7, a8, a9, a10⟩ := h
  exact ⟨fun k hk => (a1 k hk).moved hW.alike, fun q hq => (a2 q hq).warm hW, a3.moved hW.alike, a4.moved hW.alike, a5.moved hW.alike, va_Nw.warmC hW a6, va_Nw.warmC hW a7, a8.moved hW.alike, a9.moved hW.alike, a10.moved hW.alike⟩
theorem gl_X.blind {e : Nat → Nat} {A : Nat → Prop} {U : State} {g : JFrame} {mk : MethodId} {a : Array Value} (h : gl_X e A U U.heap) : gl_X e A (U.calling g mk a) (U.calling g mk a).heap := by
  have hr : U.vm.Alike (U.calling g mk a).vm := Vm.Alike.refl U.vm
  obtain ⟨a1, a2, a3, a4, a5, a6, a7, a8, a9, a10⟩ := h
  exact ⟨fun k hk => (a1 k hk).moved hr, fun q hq => vk_R.same (u := U) (U := U.calling g mk a) rfl (a2 q hq), va_Z.moved (U := U.calling g mk a) hr a3, va_Zq.moved (U := U.calling g mk a) hr a4, va_T.moved (U := U.calling g mk a) hr a5, va_Nw.same (u := U) (U := U.calling g mk a) rfl rfl a6, va_Nw.same (u := U) (U := U.calling g mk a) rfl rfl a7, va_AO.moved (U := U.calling g mk a) hr a8, va_Mi.moved (U := U.calling g mk a) hr a9, va_Dc.moved (U := U.calling g mk a) hr a10⟩
/-- what is there before the law begins, and stays: statics, nest words, texts -/
def gl_G (e : Nat → Nat) (A : Nat → Prop) (U : State) (H : Heap) : Prop := va_Z "java/util/ArrayList" "DEFAULTCAPACITY_EMPTY_ELEMENTDATA" "[Ljava/lang/Object;" (.ref (e 0)) A U H ∧ va_Z "InterlockTables" "PATTERNS" "[J" (.ref (e 1)) A U H ∧ va_T .long (e 1) 6 (fun j => .long (pat j)) A U H ∧ gl_N U ∧ gl_X e A U H
theorem gl_G.z0 {e : Nat → Nat} {A : Nat → Prop} {U : State} {H : Heap} (h : gl_G e A U H) : va_Z "java/util/ArrayList" "DEFAULTCAPACITY_EMPTY_ELEMENTDATA" "[Ljava/lang/Object;" (.ref (e 0)) A U H := h.1
theorem gl_G.z1 {e : Nat → Nat} {A : Nat → Prop} {U : State} {H : Heap} (h : gl_G e A U H) : va_Z "InterlockTables" "PATTERNS" "[J" (.ref (e 1)) A U H := h.2.1
theorem gl_G.t1 {e : Nat → Nat} {A : Nat → Prop} {U : State} {H : Heap} (h : gl_G e A U H) : va_T .long (e 1) 6 (fun j => .long (pat j)) A U H := h.2.2.1
theorem gl_G.gN {e : Nat → Nat} {A : Nat → Prop} {U : State} {H : Heap} (h : gl_G e A U H) : gl_N U := h.2.2.2.1
theorem gl_G.gX {e : Nat → Nat} {A : Nat → Prop} {U : State} {H : Heap} (h : gl_G e A U H) : gl_X e A U H := h.2.2.2.2
theorem gl_G.kept {e : Nat → Nat} {A : Nat → Prop} {U : State} {H H1 : Heap} (h : gl_G e A U H) (hq : ∀ a : Nat, a < H.size → ¬ A a → H1[a]? = H[a]?) : gl_G e A U H1 := ⟨h.1.kept hq, h.2.1.kept hq, h.2.2.1.kept hq, h.2.2.2.1, h.2.2.2.2.kept hq⟩
theorem gl_G.narrow {e : Nat → Nat} {A B : Nat → Prop} {U : State} {H : Heap} (h : gl_G e A U H) (hAB : ∀ q, B q → A q) : gl_G e B U H := ⟨h.1.narrow hAB, h.2.1.narrow hAB, h.2.2.1.narrow hAB, h.2.2.2.1, h.2.2.2.2.narrow hAB⟩
theorem gl_G.warm {e : Nat → Nat} {A : Nat → Prop} {s U : State} {H : Heap} (hW : s.WarmedH U.vm) (h : gl_G e A s H) : gl_G e A U H := ⟨h.1.moved hW.alike, h.2.1.moved hW.alike, h.2.2.1.moved hW.alike, h.2.2.2.1.warm hW, h.2.2.2.2.warm hW⟩
theorem gl_G.blind {e : Nat → Nat} {A : Nat → Prop} {U : State} {g : JFrame} {mk : MethodId} {a : Array Value} (h : gl_G e A U U.heap) : gl_G e A (U.calling g mk a) (U.calling g mk a).heap :=
  ⟨va_Z.moved (u := U) (U := U.calling g mk a) (Vm.Alike.refl U.vm) h.1, va_Z.moved (u := U) (U := U.calling g mk a) (Vm.Alike.refl U.vm) h.2.1, va_T.moved (u := U) (U := U.calling g mk a) (Vm.Alike.refl U.vm) h.2.2.1, gl_N.same (s := U) (U := U.calling g mk a) rfl h.2.2.2.1, h.2.2.2.2.blind⟩
/-- a method's start: its cells, apart -/
def mt_B (D : va_G) (cy : Nat → ClassId) (e : Nat → Nat) (ws : va_W) (sz : Nat) (U : State) : Prop := U.heap.size = sz ∧ va_P D vwCl ws U.heap ∧ va_K D vwCl (TY cy) U ∧ va_D (fun _ => True) ws ∧ gl_G e (va_A ws sz) U U.heap
/-- the start of a method that changes nothing and makes nothing -/
def pu_B (D : va_G) (cy : Nat → ClassId) (e : Nat → Nat) (ws : va_W) (U : State) : Prop := va_P D vwCl ws U.heap ∧ va_K D vwCl (TY cy) U ∧ gl_G e (fun _ => False) U U.heap
/-- the end of a method: what its cells have become -/
def mt_Q {S : Type} (D : va_G) (w1 : S → va_W) (A : Nat → Prop) : S → State → Prop := fun u t => va_P D vwCl (w1 u) t.heap ∧ va_D A (w1 u)
theorem mt_blind {D : va_G} {cy : Nat → ClassId} {e : Nat → Nat} {ws : va_W} {sz : Nat} {av : List Value} : FrameBlind (va_Pc av (mt_B D cy e ws sz)) := by
  intro a U g mk q
  obtain ⟨q0, q1, q2, q3, q4, q5⟩ := q
  exact ⟨q0, q1, q2, va_K.moved (u := U) (U := U.calling g mk a) (Vm.Alike.refl U.vm) q3, q4, q5.blind⟩
theorem pu_blind {D : va_G} {cy : Nat → ClassId} {e : Nat → Nat} {ws : va_W} {av : List Value} : FrameBlind (va_Pc av (pu_B D cy e ws)) := by
  intro a U g mk q
  obtain ⟨q0, q2, q3, q5⟩ := q
  exact ⟨q0, q2, va_K.moved (u := U) (U := U.calling g mk a) (Vm.Alike.refl U.vm) q3, q5.blind⟩
/-- a loop at a head: an invariant, a measure that falls -/
theorem lp_W {σ : Type} {Wf : Heap → List Loc → Array Slot → Prop} (I : σ → Heap → List Loc → Array Slot → Prop) (μ : σ → Nat) (hs : ∀ (x : σ) (H : Heap) (locs : List Loc) (ls : Array Slot), I x H locs ls → (∀ (y : σ) (H' : Heap) (locs' : List Loc) (ls' : Array Slot), I y H' locs' ls' → μ y < μ x → Wf H' locs' ls') → Wf H locs ls) (x : σ) (H : Heap) (locs : List Loc) (ls : Array Slot) (h : I x H locs ls) : Wf H locs ls := by
  have key : ∀ (n : Nat) (x : σ) (H : Heap) (locs : List Loc) (ls : Array Slot), μ x < n → I x H locs ls → Wf H locs ls := by
    intro n
    induction n with
    | zero => intro x H locs ls h; exact absurd h (Nat.not_lt_zero _)
    | succ n ih => intro x H locs ls hn hI; exact hs x H locs ls hI (fun y H' locs' ls' hy hm => ih y H' locs' ls' (by omega) hy)
  exact key _ x H locs ls (Nat.lt_succ_self _) h
theorem lp_Wx {σ : Type} {Wf : σ → Heap → List Loc → Array Slot → Prop} (I : σ → Heap → List Loc → Array Slot → Prop) (μ : σ → Nat) (hs : ∀ (x : σ) (H : Heap) (locs : List Loc) (ls : Array Slot), I x H locs ls → (∀ (y : σ) (H' : Heap) (locs' : List Loc) (ls' : Array Slot), I y H' locs' ls' → μ y < μ x → Wf y H' locs' ls') → Wf x H locs ls) (x : σ) (H : Heap) (locs : List Loc) (ls : Array Slot) (h : I x H locs ls) : Wf x H locs ls := by
  have key : ∀ (n : Nat) (x : σ) (H : Heap) (locs : List Loc) (ls : Array Slot), μ x < n → I x H locs ls → Wf x H locs ls := by
    intro n
    induction n with
    | zero => intro x H locs ls h; exact absurd h (Nat.not_lt_zero _)
    | succ n ih => intro x H locs ls hn hI; exact hs x H locs ls hI (fun y H' locs' ls' hy hm => ih y H' locs' ls' (by omega) hy)
  exact key _ x H locs ls (Nat.lt_succ_self _) h
theorem pk_max0 {k : Nat} (h : k < 2 ^ 31) : (if (0 : Int32) < nI k then nI k else 0) = nI k := by
  rcases Nat.eq_zero_or_pos k with rfl | hk
  · simp [nI_0]
  · have h1 := nI_lt hk h
    rw [nI_0] at h1
    exact if_pos h1
theorem pk_inlt {i : Int32} {len n : Nat} (h0 : ¬ i < 0) (h : i < nI len) (hl : len ≤ n) (hn : n < 2 ^ 31) : vp_in i n := by
  obtain ⟨j, hj, rfl⟩ := nI_of h0
  have h2 := (nI_ltI hj (by omega)).mp h
  exact vp_in_nI (by omega) hn
theorem pk_ushr0 (y : UInt32) : ((0 : Int32).toUInt32 >>> y).toInt32 = 0 := by
  have h : (0 : Int32).toUInt32 = 0 := by decide
  rw [h, UInt32.zero_shiftRight]
  decide
theorem pk_nle {a b : Nat} (hb : b < 2 ^ 31) (h : ¬ nI a ≤ nI b) : b < a := Nat.lt_of_not_le (fun h2 => h (nI_le h2 hb))
theorem pk_at0 (i : Int32) (f : Nat → Int32) : (if i < 0 ∨ ¬ i < nI 0 then -1 else f i.toNatClampNeg) = -1 := by
  by_cases h : i < 0
  · rw [if_pos (Or.inl h)]
  · rw [if_pos (Or.inr (by rw [nI_0]; exact h))]
theorem pk_sh0 (k : Int32) : ¬ ((0 : Int32) >>> (k &&& 31)) &&& 1 = 1 := by
  have h : (0 : Int32) >>> (k &&& 31) = 0 := Int32.zero_shiftRight
  rw [h]
  decide
theorem pk_ti {x y : Int32} : x < y ↔ x.toInt < y.toInt := Int32.lt_iff_toInt_lt
theorem pk_tl {x y : Int32} : x ≤ y ↔ x.toInt ≤ y.toInt := Int32.le_iff_toInt_le
theorem pk_15 {k : Int32} (h : 15 < k) : ¬ k < 16 := by
  rw [pk_ti] at h ⊢
  have e1 : (15 : Int32).toInt = 15 := by decide
  have e0 : (16 : Int32).toInt = 16 := by decide
  omega
theorem pk_16 {k : Int32} (h : ¬ 15 < k) : k < 16 := by
  rw [pk_ti] at h ⊢
  have e1 : (15 : Int32).toInt = 15 := by decide
  have e0 : (16 : Int32).toInt = 16 := by decide
  omega
theorem pk_31 {k : Int32} (h : ¬ k ≤ 31) : ¬ k < 32 := by
  rw [pk_tl] at h
  rw [pk_ti]
  have e1 : (31 : Int32).toInt = 31 := by decide
  have e0 : (32 : Int32).toInt = 32 := by decide
  omega
theorem pk_32 {k : Int32} (h : k ≤ 31) : k < 32 := by
  rw [pk_tl] at h
  rw [pk_ti]
  have e1 : (31 : Int32).toInt = 31 := by decide
  have e0 : (32 : Int32).toInt = 32 := by decide
  omega
theorem pk_gt0 {x : Int32} (h : ¬ x < 1) : nI 0 < x := by
  rw [pk_ti] at h ⊢
  have e1 : (1 : Int32).toInt = 1 := by decide
  have e0 : (nI 0).toInt = 0 := by decide
  omega
theorem pk_ge0 {x : Int32} (h : ¬ x < 0) : 0 ≤ x := by
  rw [pk_ti] at h
  rw [pk_tl]
  omega
theorem pk_p0 (x : Int32) : x + 0 = x := by simp
theorem pk_n1 {x : Int32} (h : ¬ x < 1) : ¬ x ≤ nI 0 := by
  intro h2
  rw [nI_0] at h2
  apply h
  rw [Int32.lt_iff_toInt_lt]
  rw [Int32.le_iff_toInt_le] at h2
  have e1 : (1 : Int32).toInt = 1 := by decide
  have e0 : (0 : Int32).toInt = 0 := by decide
  omega
section Core
variable {p : Program} {l : Launch} {ev : Env} {R : Room} {s : State} {m : MethodId} {args : Array Value} {below : List Frame} {meth : Method} {c : Code} {H : Heap} {locs : List Loc} {cells slots : Nat} {Q : State → Prop} {D : va_G} {cy : Nat → ClassId} {e : Nat → Nat} {A : Nat → Prop} {ws wc wr : va_W} {pc : Nat} {ls : Array Slot} {st0 rest : List Value} {a : Array Value} {mc ms : Nat} {cc : ByteArray}
theorem va_subm {D : va_G} {cl : List vw_C} {ws ws' : va_W} {H : Heap} (h : va_P D cl ws H) (is : List Nat) (hs : is.map (fun i => ws[i]?) = ws'.map some) : va_P D cl ws' H := by
  intro k q hk
  have h1 : (ws'.map some)[k]? = some (some q) := by rw [List.getElem?_map, hk]; rfl
  rw [← hs, List.getElem?_map] at h1
  cases hi : is[k]? with
  | none => rw [hi] at h1; cases h1
  | some i =>
    rw [hi] at h1
    exact h i q (Option.some.inj h1)
theorem mt_at (hP : va_P D vwCl ws H) (hD : va_D A ws) (hK : va_K D vwCl (TY cy) s) (hS : va_S A s.heap H locs) (hA : ∀ q, s.heap.size ≤ q → A q) (hG : gl_G e A s s.heap) (isC : List Nat) (hC : isC.map (fun i => ws[i]?) = wc.map some) (hn : va_nd isC = true) : ∀ U : State, U.heap = H → s.WarmedH U.vm → mt_B D cy e wc H.size U := by
  intro U hU hW
  refine ⟨by rw [hU], by rw [hU]; exact va_subm hP isC hC, va_K.moved hW.alike hK, (hD.sub isC hn hC).weaken (fun _ _ _ _ => trivial), ?_⟩
  rw [hU]
  exact ((hG.kept hS.2.1).narrow (va_free hD hS hA isC hC)).warm hW
theorem pu_at (hP : va_P D vwCl ws H) (hK : va_K D vwCl (TY cy) s) (hS : va_S A s.heap H locs) (hG : gl_G e A s s.heap) (isC : List Nat) (hC : isC.map (fun i => ws[i]?) = wc.map some) : ∀ U : State, U.heap = H → s.WarmedH U.vm → pu_B D cy e wc U := by
  intro U hU hW
  refine ⟨by rw [hU]; exact va_subm hP isC hC, va_K.moved hW.alike hK, ?_⟩
  rw [hU]
  exact ((hG.kept hS.2.1).narrow (fun _ h => h.elim)).warm hW
theorem mt_preS {As : List Value} (hP : va_P D vwCl ws H) (hD : va_D A ws) (hK : va_K D vwCl (TY cy) s) (hS : va_S A s.heap H locs) (hA : ∀ q, s.heap.size ≤ q → A q) (hG : gl_G e A s s.heap) (isC : List Nat) (hC : isC.map (fun i => ws[i]?) = wc.map some) (hn : va_nd isC = true) : PreS s H (va_Pc As (mt_B D cy e wc H.size)) As :=
  ⟨mt_blind, fun U hU hW => ⟨rfl, mt_at hP hD hK hS hA hG isC hC hn U hU hW⟩⟩
theorem mt_preV {b ci q0 : Nat} {fs : List Value} {q : vw_C} {As : List Value} (hP : va_P D vwCl ws H) (hD : va_D A ws) (hK : va_K D vwCl (TY cy) s) (hS : va_S A s.heap H locs) (hA : ∀ q, s.heap.size ≤ q → A q) (hG : gl_G e A s s.heap) (isC : List Nat) (hC : isC.map (fun i => ws[i]?) = wc.map some) (hn : va_nd isC = true) (hc : vwCl[ci]? = some q) (he : ws[q0]? = some (b, .inr (ci, fs))) : PreV s H q.1 b (va_Pc (.ref b :: As) (mt_B D cy e wc H.size)) As :=
  ⟨mt_blind, va_recv hK hP hc he, fun U hU hW => ⟨rfl, mt_at hP hD hK hS hA hG isC hC hn U hU hW⟩⟩
theorem pu_preS {As : List Value} (hP : va_P D vwCl ws H) (hK : va_K D vwCl (TY cy) s) (hS : va_S A s.heap H locs) (hG : gl_G e A s s.heap) (isC : List Nat) (hC : isC.map (fun i => ws[i]?) = wc.map some) : PreS s H (va_Pc As (pu_B D cy e wc)) As :=
  ⟨pu_blind, fun U hU hW => ⟨rfl, pu_at hP hK hS hG isC hC U hU hW⟩⟩
theorem pu_preV {b ci q0 : Nat} {fs : List Value} {q : vw_C} {As : List Value} (hP : va_P D vwCl ws H) (hK : va_K D vwCl (TY cy) s) (hS : va_S A s.heap H locs) (hG : gl_G e A s s.heap) (isC : List Nat) (hC : isC.map (fun i => ws[i]?) = wc.map some) (hc : vwCl[ci]? = some q) (he : ws[q0]? = some (b, .inr (ci, fs))) : PreV s H q.1 b (va_Pc (.ref b :: As) (pu_B D cy e wc)) As :=
  ⟨pu_blind, va_recv hK hP hc he, fun U hU hW => ⟨rfl, pu_at hP hK hS hG isC hC U hU hW⟩⟩
theorem mt_calli {S : Type} {post : Int32 → S → Prop} {w1 : S → va_W} (hr : va_Run p l ev R s m args below meth c H locs cells slots mc ms (F0 m pc ls st0) rest (va_Qi post (mt_Q D w1 (va_A wc H.size)) (va_A wc H.size) a) (va_A wc H.size)) (hP : va_P D vwCl ws H) (hD : va_D A ws) (hS : va_S A s.heap H locs) (hA : ∀ q, s.heap.size ≤ q → A q) (isC isR : List Nat) (hC : isC.map (fun i => ws[i]?) = wc.map some) (hR : isR.map (fun i => ws[i]?) = wr.map some) (hn : va_nd isR = true) (hdis : ∀ i ∈ isR, i ∉ isC)
    (kk : ∀ (r : Int32) (u : S) (H1 : Heap) (locs1 : List Loc), post r u → va_P D vwCl (wr ++ w1 u) H1 → va_D A (wr ++ w1 u) → va_S A s.heap H1 locs1 → W p l ev R s m args below meth c H1 locs1 (cells + mc) (slots + ms) Q (F0 m (pc + 3) ls (.int r :: rest))) : W p l ev R s m args below meth c H locs cells slots Q (F0 m pc ls st0) := by
  have hF := va_free (wc := wc) hD hS hA isC hC
  refine va_calli hr hS (fun q _ h => hF q h) hF (fun r u t H1 locs1 ht hvm hw hB hz hk hS1 => ?_)
  obtain ⟨hP1, hD1⟩ := hB
  rw [ht] at hP1
  obtain ⟨g1, g2⟩ := va_join (wr := wr) hP hD isC isR hC hR hn hdis hk hF hP1 hD1
  exact kk r u H1 locs1 hw g1 g2 hS1
theorem pu_calli {ans : Int32} (hr : va_Run p l ev R s m args below meth c H locs cells slots 0 0 (F0 m pc ls st0) rest (va_Qi (fun r (_ : Unit) => r = ans) (fun _ _ => True) (fun _ => False) a) (fun _ => False)) (hP : va_P D vwCl ws H) (hS : va_S A s.heap H locs)
    (kk : ∀ (H1 : Heap) (locs1 : List Loc), va_P D vwCl ws H1 → va_S A s.heap H1 locs1 → W p l ev R s m args below meth c H1 locs1 cells slots Q (F0 m (pc + 3) ls (.int ans :: rest))) : W p l ev R s m args below meth c H locs cells slots Q (F0 m pc ls st0) := by
  refine va_calli hr hS (fun q _ h => h.elim) (fun q h => h.elim) (fun r u t H1 locs1 ht hvm hw hB hz hk hS1 => ?_)
  subst hw
  exact kk H1 locs1 (hP.kept (fun k q hq => hk q.1 (hP k q hq).lt (fun h => h))) hS1
theorem mt_calll {S : Type} {post : Int64 → S → Prop} {w1 : S → va_W} (hr : va_Run p l ev R s m args below meth c H locs cells slots mc ms (F0 m pc ls st0) rest (va_Ql post (mt_Q D w1 (va_A wc H.size)) (va_A wc H.size) a) (va_A wc H.size)) (hP : va_P D vwCl ws H) (hD : va_D A ws) (hS : va_S A s.heap H locs) (hA : ∀ q, s.heap.size ≤ q → A q) (isC isR : List Nat) (hC : isC.map (fun i => ws[i]?) = wc.map some) (hR : isR.map (fun i => ws[i]?) = wr.map some) (hn : va_nd isR = true) (hdis : ∀ i ∈ isR, i ∉ isC)
    (kk : ∀ (r : Int64) (u : S) (H1 : Heap) (locs1 : List Loc), post r u → va_P D vwCl (wr ++ w1 u) H1 → va_D A (wr ++ w1 u) → va_S A s.heap H1 locs1 → W p l ev R s m args below meth c H1 locs1 (cells + mc) (slots + ms) Q (F0 m (pc + 3) ls (.long r :: rest))) : W p l ev R s m args below meth c H locs cells slots Q (F0 m pc ls st0) := by
  have hF := va_free (wc := wc) hD hS hA isC hC
  refine va_calll hr hS (fun q _ h => hF q h) hF (fun r u t H1 locs1 ht hvm hw hB hz hk hS1 => ?_)
  obtain ⟨hP1, hD1⟩ := hB
  rw [ht] at hP1
  obtain ⟨g1, g2⟩ := va_join (wr := wr) hP hD isC isR hC hR hn hdis hk hF hP1 hD1
  exact kk r u H1 locs1 hw g1 g2 hS1
theorem pu_calll {ans : Int64} (hr : va_Run p l ev R s m args below meth c H locs cells slots 0 0 (F0 m pc ls st0) rest (va_Ql (fun r (_ : Unit) => r = ans) (fun _ _ => True) (fun _ => False) a) (fun _ => False)) (hP : va_P D vwCl ws H) (hS : va_S A s.heap H locs)
    (kk : ∀ (H1 : Heap) (locs1 : List Loc), va_P D vwCl ws H1 → va_S A s.heap H1 locs1 → W p l ev R s m args below meth c H1 locs1 cells slots Q (F0 m (pc + 3) ls (.long ans :: rest))) : W p l ev R s m args below meth c H locs cells slots Q (F0 m pc ls st0) := by
  refine va_calll hr hS (fun q _ h => h.elim) (fun q h => h.elim) (fun r u t H1 locs1 ht hvm hw hB hz hk hS1 => ?_)
  subst hw
  exact kk H1 locs1 (hP.kept (fun k q hq => hk q.1 (hP k q hq).lt (fun h => h))) hS1
theorem mt_callq {S : Type} {post : Option Nat → S → Prop} {w1 : S → va_W} (hr : va_Run p l ev R s m args below meth c H locs cells slots mc ms (F0 m pc ls st0) rest (va_Qq post (mt_Q D w1 (va_A wc H.size)) (va_A wc H.size) a) (va_A wc H.size)) (hP : va_P D vwCl ws H) (hD : va_D A ws) (hS : va_S A s.heap H locs) (hA : ∀ q, s.heap.size ≤ q → A q) (isC isR : List Nat) (hC : isC.map (fun i => ws[i]?) = wc.map some) (hR : isR.map (fun i => ws[i]?) = wr.map some) (hn : va_nd isR = true) (hdis : ∀ i ∈ isR, i ∉ isC)
    (kk : ∀ (r : Option Nat) (u : S) (H1 : Heap) (locs1 : List Loc), post r u → va_P D vwCl (wr ++ w1 u) H1 → va_D A (wr ++ w1 u) → va_S A s.heap H1 locs1 → W p l ev R s m args below meth c H1 locs1 (cells + mc) (slots + ms) Q (F0 m (pc + 3) ls (va_rf r :: rest))) : W p l ev R s m args below meth c H locs cells slots Q (F0 m pc ls st0) := by
  have hF := va_free (wc := wc) hD hS hA isC hC
  refine va_callq hr hS (fun q _ h => hF q h) hF (fun r u t H1 locs1 ht hvm hw hB hz hk hS1 => ?_)
  obtain ⟨hP1, hD1⟩ := hB
  rw [ht] at hP1
  obtain ⟨g1, g2⟩ := va_join (wr := wr) hP hD isC isR hC hR hn hdis hk hF hP1 hD1
  exact kk r u H1 locs1 hw g1 g2 hS1
theorem pu_callq {ans : Option Nat} (hr : va_Run p l ev R s m args below meth c H locs cells slots 0 0 (F0 m pc ls st0) rest (va_Qq (fun r (_ : Unit) => r = ans) (fun _ _ => True) (fun _ => False) a) (fun _ => False)) (hP : va_P D vwCl ws H) (hS : va_S A s.heap H locs)
    (kk : ∀ (H1 : Heap) (locs1 : List Loc), va_P D vwCl ws H1 → va_S A s.heap H1 locs1 → W p l ev R s m args below meth c H1 locs1 cells slots Q (F0 m (pc + 3) ls (va_rf ans :: rest))) : W p l ev R s m args below meth c H locs cells slots Q (F0 m pc ls st0) := by
  refine va_callq hr hS (fun q _ h => h.elim) (fun q h => h.elim) (fun r u t H1 locs1 ht hvm hw hB hz hk hS1 => ?_)
  subst hw
  exact kk H1 locs1 (hP.kept (fun k q hq => hk q.1 (hP k q hq).lt (fun h => h))) hS1
theorem pu_callni {P : Int32 → Prop} (hr : va_Run p l ev R s m args below meth c H locs cells slots 0 0 (F0 m pc ls st0) rest (va_Qi (fun r (_ : Unit) => P r) (fun _ _ => True) (fun _ => False) a) (fun _ => False)) (hP : va_P D vwCl ws H) (hS : va_S A s.heap H locs)
    (kk : ∀ (r : Int32) (H1 : Heap) (locs1 : List Loc), P r → va_P D vwCl ws H1 → va_S A s.heap H1 locs1 → W p l ev R s m args below meth c H1 locs1 cells slots Q (F0 m (pc + 3) ls (.int r :: rest))) : W p l ev R s m args below meth c H locs cells slots Q (F0 m pc ls st0) := by
  refine va_calli hr hS (fun q _ h => h.elim) (fun q h => h.elim) (fun r u t H1 locs1 ht hvm hw hB hz hk hS1 => ?_)
  exact kk r H1 locs1 hw (hP.kept (fun k q hq => hk q.1 (hP k q hq).lt (fun h => h))) hS1
theorem pu_callnl {P : Int64 → Prop} (hr : va_Run p l ev R s m args below meth c H locs cells slots 0 0 (F0 m pc ls st0) rest (va_Ql (fun r (_ : Unit) => P r) (fun _ _ => True) (fun _ => False) a) (fun _ => False)) (hP : va_P D vwCl ws H) (hS : va_S A s.heap H locs)
    (kk : ∀ (r : Int64) (H1 : Heap) (locs1 : List Loc), P r → va_P D vwCl ws H1 → va_S A s.heap H1 locs1 → W p l ev R s m args below meth c H1 locs1 cells slots Q (F0 m (pc + 3) ls (.long r :: rest))) : W p l ev R s m args below meth c H locs cells slots Q (F0 m pc ls st0) := by
  refine va_calll hr hS (fun q _ h => h.elim) (fun q h => h.elim) (fun r u t H1 locs1 ht hvm hw hB hz hk hS1 => ?_)
  exact kk r H1 locs1 hw (hP.kept (fun k q hq => hk q.1 (hP k q hq).lt (fun h => h))) hS1
theorem pu_callnq {P : Option Nat → Prop} (hr : va_Run p l ev R s m args below meth c H locs cells slots 0 0 (F0 m pc ls st0) rest (va_Qq (fun r (_ : Unit) => P r) (fun _ _ => True) (fun _ => False) a) (fun _ => False)) (hP : va_P D vwCl ws H) (hS : va_S A s.heap H locs)
    (kk : ∀ (r : Option Nat) (H1 : Heap) (locs1 : List Loc), P r → va_P D vwCl ws H1 → va_S A s.heap H1 locs1 → W p l ev R s m args below meth c H1 locs1 cells slots Q (F0 m (pc + 3) ls (va_rf r :: rest))) : W p l ev R s m args below meth c H locs cells slots Q (F0 m pc ls st0) := by
  refine va_callq hr hS (fun q _ h => h.elim) (fun q h => h.elim) (fun r u t H1 locs1 ht hvm hw hB hz hk hS1 => ?_)
  exact kk r H1 locs1 hw (hP.kept (fun k q hq => hk q.1 (hP k q hq).lt (fun h => h))) hS1
theorem mt_callv {S : Type} {post : S → Prop} {w1 : S → va_W} (hr : va_Run p l ev R s m args below meth c H locs cells slots mc ms (F0 m pc ls st0) rest (va_Qv post (mt_Q D w1 (va_A wc H.size)) (va_A wc H.size) a) (va_A wc H.size)) (hP : va_P D vwCl ws H) (hD : va_D A ws) (hS : va_S A s.heap H locs) (hA : ∀ q, s.heap.size ≤ q → A q) (isC isR : List Nat) (hC : isC.map (fun i => ws[i]?) = wc.map some) (hR : isR.map (fun i => ws[i]?) = wr.map some) (hn : va_nd isR = true) (hdis : ∀ i ∈ isR, i ∉ isC)
    (kk : ∀ (u : S) (H1 : Heap) (locs1 : List Loc), post u → va_P D vwCl (wr ++ w1 u) H1 → va_D A (wr ++ w1 u) → va_S A s.heap H1 locs1 → W p l ev R s m args below meth c H1 locs1 (cells + mc) (slots + ms) Q (F0 m (pc + 3) ls rest)) : W p l ev R s m args below meth c H locs cells slots Q (F0 m pc ls st0) := by
  have hF := va_free (wc := wc) hD hS hA isC hC
  refine va_callv hr hS (fun q _ h => hF q h) hF (fun u t H1 locs1 ht hvm hw hB hz hk hS1 => ?_)
  obtain ⟨hP1, hD1⟩ := hB
  rw [ht] at hP1
  obtain ⟨g1, g2⟩ := va_join (wr := wr) hP hD isC isR hC hR hn hdis hk hF hP1 hD1
  exact kk u H1 locs1 hw g1 g2 hS1
theorem pu_callv (hr : va_Run p l ev R s m args below meth c H locs cells slots 0 0 (F0 m pc ls st0) rest (va_Qv (fun (_ : Unit) => True) (fun _ _ => True) (fun _ => False) a) (fun _ => False)) (hP : va_P D vwCl ws H) (hS : va_S A s.heap H locs)
    (kk : ∀ (H1 : Heap) (locs1 : List Loc), va_P D vwCl ws H1 → va_S A s.heap H1 locs1 → W p l ev R s m args below meth c H1 locs1 cells slots Q (F0 m (pc + 3) ls rest)) : W p l ev R s m args below meth c H locs cells slots Q (F0 m pc ls st0) := by
  refine va_callv hr hS (fun q _ h => h.elim) (fun q h => h.elim) (fun u t H1 locs1 ht hvm hw hB hz hk hS1 => ?_)
  exact kk H1 locs1 (hP.kept (fun k q hq => hk q.1 (hP k q hq).lt (fun h => h))) hS1

/-- a new array: its class is the one that is known already -/
theorem na_new (hexec : p.tables.exec = Jvm.exec) (hb : c.code = cc) {atype : ArrayType} (harr : (Cond.arrayClass (newarray.typeOf atype)).before args s = true) {ty : FieldType} (hty : newarray.typeOf atype = ty) (t0 : Nat) {cA : ClassId} (ht : (TY cy)[t0]? = some (cA, ty)) (hK : va_K D vwCl (TY cy) s) (hP : va_P D vwCl ws H) (hD : va_D A ws) (hS : va_S A s.heap H locs) (hA : ∀ q, s.heap.size ≤ q → A q)
    {n : Int32} {N' : Nat} {a0 : vp_A} (ha : ∀ cA : ClassId, vp_cell cA a0 = arrV cA N' (fun _ => defaultValue ty)) (hn : ¬ n < 0) (hN : n.toNatClampNeg = N') (hbytes : N' * componentBytes ty ≤ 536870912) (hcells : cells + 1 ≤ R.cells) (hslots : slots + N' ≤ R.slots) (hdg : decode cc pc = .ok (.newarray atype, 2))
    (kk : ∀ (q : Nat) (H1 : Heap), va_P D vwCl (ws ++ [(q, .inl (cA, a0))]) H1 → va_D A (ws ++ [(q, .inl (cA, a0))]) → va_S A s.heap H1 locs →
      W p l ev R s m args below meth c H1 locs (cells + 1) (slots + N') Q (F0 m (pc + 2) ls (.ref q :: rest))) : W p l ev R s m args below meth c H locs cells slots Q (F0 m pc ls (.int n :: rest)) := by
  refine va_newa hexec hb harr hty hK hP hD hS hA ha hn hN hbytes hcells hslots hdg (fun q cB H1 hK1 hP1 hD1 hS1 => ?_)
  have h1 := (hK.2 t0 _ ht).2
  have h2 := (hK1.2 (TY cy).length (cB, ty) (by rw [List.getElem?_append_right (Nat.le_refl _), Nat.sub_self]; rfl)).2
  have hc : cB = cA := by
    subst hty
    cases atype <;> exact Option.some.inj (h2.symm.trans h1)
  subst hc
  exact kk q H1 hP1 hD1 hS1
end Core
