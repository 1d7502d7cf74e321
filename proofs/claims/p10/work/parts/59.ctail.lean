-- deps: 50

theorem tl_P {D : va_G} {cl : List vw_C} {ws : va_W} {H : Heap} : va_P D cl ws H ↔ ∀ q ∈ ws, va_at D cl q H := by
  constructor
  · intro h q hq
    obtain ⟨k, hk⟩ := List.mem_iff_getElem?.mp hq
    exact h k q hk
  · intro h k q hk
    exact h q (List.mem_of_getElem? hk)
theorem tl_D {A : Nat → Prop} {ws : va_W} : va_D A ws ↔ (ws.map (fun q => q.1)).Nodup ∧ ∀ q ∈ ws, A q.1 := by
  constructor
  · intro h
    refine ⟨?_, ?_⟩
    · rw [List.Nodup, List.pairwise_iff_getElem]
      intro i j hi hj hij heq
      rw [List.length_map] at hi hj
      rw [List.getElem_map, List.getElem_map] at heq
      have := h.1 i j ws[i] ws[j] (List.getElem?_eq_getElem hi) (List.getElem?_eq_getElem hj) heq
      omega
    · intro q hq
      obtain ⟨k, hk⟩ := List.mem_iff_getElem?.mp hq
      exact h.2 k q hk
  · intro h
    refine ⟨?_, fun k q hk => h.2 q (List.mem_of_getElem? hk)⟩
    intro i j p q hp hq heq
    obtain ⟨hi, hp'⟩ := List.getElem?_eq_some_iff.mp hp
    obtain ⟨hj, hq'⟩ := List.getElem?_eq_some_iff.mp hq
    have h1 := h.1
    rw [List.Nodup, List.pairwise_iff_getElem] at h1
    rcases Nat.lt_trichotomy i j with hlt | he | hlt
    · exact absurd (by rw [List.getElem_map, List.getElem_map, hp', hq']; exact heq) (h1 i j (by rw [List.length_map]; exact hi) (by rw [List.length_map]; exact hj) hlt)
    · exact he
    · exact absurd (by rw [List.getElem_map, List.getElem_map, hp', hq']; exact heq.symm) (h1 j i (by rw [List.length_map]; exact hj) (by rw [List.length_map]; exact hi) hlt)
theorem tl_Pp {D : va_G} {cl : List vw_C} {ws ws' : va_W} {H : Heap} (h : ws.Perm ws') (hP : va_P D cl ws H) : va_P D cl ws' H := tl_P.mpr (fun q hq => tl_P.mp hP q (h.mem_iff.mpr hq))
theorem tl_Dp {A : Nat → Prop} {ws ws' : va_W} (h : ws.Perm ws') (hD : va_D A ws) : va_D A ws' := by
  have h1 := tl_D.mp hD
  exact tl_D.mpr ⟨((h.map (fun q => q.1)).nodup_iff).mp h1.1, fun q hq => h1.2 q (h.mem_iff.mpr hq)⟩
theorem tl_snoc {X N T : va_W} : ((X ++ T) ++ N).Perm ((X ++ N) ++ T) := by
  rw [List.append_assoc, List.append_assoc]
  exact List.Perm.append_left X List.perm_append_comm
theorem tl_mem {X X' : va_W} (is : List Nat) (hs : is.map (fun i => X[i]?) = X'.map some) : ∀ q ∈ X', q ∈ X := by
  intro q hq
  have h1 : some q ∈ X'.map some := List.mem_map.mpr ⟨q, hq, rfl⟩
  rw [← hs] at h1
  obtain ⟨i, _, hi⟩ := List.mem_map.mp h1
  exact List.mem_of_getElem? hi
theorem tl_subP {D : va_G} {cl : List vw_C} {X X' T : va_W} {H : Heap} (hP : va_P D cl (X ++ T) H) (is : List Nat) (hs : is.map (fun i => X[i]?) = X'.map some) : va_P D cl (X' ++ T) H := by
  rw [tl_P] at hP ⊢
  intro q hq
  rcases List.mem_append.mp hq with h | h
  · exact hP q (List.mem_append_left _ (tl_mem is hs q h))
  · exact hP q (List.mem_append_right _ h)
theorem tl_left {A : Nat → Prop} {X T : va_W} (hD : va_D A (X ++ T)) : va_D A X := by
  rw [tl_D] at hD ⊢
  refine ⟨?_, fun q hq => hD.2 q (List.mem_append_left _ hq)⟩
  rw [List.map_append] at hD
  exact (List.nodup_append.mp hD.1).1
theorem tl_subD {A : Nat → Prop} {X X' T : va_W} (hD : va_D A (X ++ T)) (is : List Nat) (hn : va_nd is = true) (hs : is.map (fun i => X[i]?) = X'.map some) : va_D A (X' ++ T) := by
  have hX' := tl_D.mp ((tl_left hD).sub is hn hs)
  rw [tl_D] at hD ⊢
  rw [List.map_append, List.nodup_append] at hD ⊢
  refine ⟨⟨hX'.1, hD.1.2.1, ?_⟩, ?_⟩
  · intro x hx y hy
    obtain ⟨q, hq, rfl⟩ := List.mem_map.mp hx
    exact hD.1.2.2 _ (List.mem_map.mpr ⟨q, tl_mem is hs q hq, rfl⟩) y hy
  · intro q hq
    rcases List.mem_append.mp hq with h | h
    · exact hX'.2 q h
    · exact hD.2 q (List.mem_append_right _ h)
section Tail
variable {p : Program} {l : Launch} {ev : Env} {R : Room} {s : State} {m : MethodId} {args : Array Value} {below : List Frame} {meth : Method} {c : Code} {H : Heap} {locs : List Loc} {cells slots : Nat} {Q : State → Prop} {D : va_G} {cy : Nat → ClassId} {e : Nat → Nat} {A : Nat → Prop} {X X' N T T' cx wr : va_W} {pc : Nat} {ls : Array Slot} {st0 rest : List Value} {a : Array Value} {mc ms : Nat} {cc : ByteArray}
theorem mt_atT (hP : va_P D vwCl (X ++ T) H) (hD : va_D A (X ++ T)) (hK : va_K D vwCl (TY cy) s) (hS : va_S A s.heap H locs) (hA : ∀ q, s.heap.size ≤ q → A q) (hG : gl_G e A s s.heap) (isC : List Nat) (hC : isC.map (fun i => X[i]?) = cx.map some) (hn : va_nd isC = true) : ∀ U : State, U.heap = H → s.WarmedH U.vm → mt_B D cy e (cx ++ T) H.size U := by
  intro U hU hW
  refine ⟨by rw [hU], by rw [hU]; exact tl_subP hP isC hC, va_K.moved hW.alike hK, (tl_subD hD isC hn hC).weaken (fun _ _ _ _ => trivial), ?_⟩
  rw [hU]
  exact ((hG.kept hS.2.1).narrow (va_freeP hD hS hA isC hC)).warm hW
theorem pu_atT (hP : va_P D vwCl (X ++ T) H) (hK : va_K D vwCl (TY cy) s) (hS : va_S A s.heap H locs) (hG : gl_G e A s s.heap) (isC : List Nat) (hC : isC.map (fun i => X[i]?) = cx.map some) : ∀ U : State, U.heap = H → s.WarmedH U.vm → pu_B D cy e (cx ++ T) U := by
  intro U hU hW
  refine ⟨by rw [hU]; exact tl_subP hP isC hC, va_K.moved hW.alike hK, ?_⟩
  rw [hU]
  exact ((hG.kept hS.2.1).narrow (fun _ h => h.elim)).warm hW
theorem mt_preST {As : List Value} (hP : va_P D vwCl (X ++ T) H) (hD : va_D A (X ++ T)) (hK : va_K D vwCl (TY cy) s) (hS : va_S A s.heap H locs) (hA : ∀ q, s.heap.size ≤ q → A q) (hG : gl_G e A s s.heap) (isC : List Nat) (hC : isC.map (fun i => X[i]?) = cx.map some) (hn : va_nd isC = true) : PreS s H (va_Pc As (mt_B D cy e (cx ++ T) H.size)) As :=
  ⟨mt_blind, fun U hU hW => ⟨rfl, mt_atT hP hD hK hS hA hG isC hC hn U hU hW⟩⟩
theorem mt_preVT {b ci q0 : Nat} {fs : List Value} {q : vw_C} {As : List Value} (hP : va_P D vwCl (X ++ T) H) (hD : va_D A (X ++ T)) (hK : va_K D vwCl (TY cy) s) (hS : va_S A s.heap H locs) (hA : ∀ q, s.heap.size ≤ q → A q) (hG : gl_G e A s s.heap) (isC : List Nat) (hC : isC.map (fun i => X[i]?) = cx.map some) (hn : va_nd isC = true) (hc : vwCl[ci]? = some q) (he : (X ++ T)[q0]? = some (b, .inr (ci, fs))) : PreV s H q.1 b (va_Pc (.ref b :: As) (mt_B D cy e (cx ++ T) H.size)) As :=
  ⟨mt_blind, va_recv hK hP hc he, fun U hU hW => ⟨rfl, mt_atT hP hD hK hS hA hG isC hC hn U hU hW⟩⟩
theorem pu_preST {As : List Value} (hP : va_P D vwCl (X ++ T) H) (hK : va_K D vwCl (TY cy) s) (hS : va_S A s.heap H locs) (hG : gl_G e A s s.heap) (isC : List Nat) (hC : isC.map (fun i => X[i]?) = cx.map some) : PreS s H (va_Pc As (pu_B D cy e (cx ++ T))) As :=
  ⟨pu_blind, fun U hU hW => ⟨rfl, pu_atT hP hK hS hG isC hC U hU hW⟩⟩
theorem pu_preVT {b ci q0 : Nat} {fs : List Value} {q : vw_C} {As : List Value} (hP : va_P D vwCl (X ++ T) H) (hK : va_K D vwCl (TY cy) s) (hS : va_S A s.heap H locs) (hG : gl_G e A s s.heap) (isC : List Nat) (hC : isC.map (fun i => X[i]?) = cx.map some) (hc : vwCl[ci]? = some q) (he : (X ++ T)[q0]? = some (b, .inr (ci, fs))) : PreV s H q.1 b (va_Pc (.ref b :: As) (pu_B D cy e (cx ++ T))) As :=
  ⟨pu_blind, va_recv hK hP hc he, fun U hU hW => ⟨rfl, pu_atT hP hK hS hG isC hC U hU hW⟩⟩
theorem mt_calliQ {S : Type} {post : Int32 → S → Prop} {w1 : S → va_W} (hr : va_Run p l ev R s m args below meth c H locs cells slots mc ms (F0 m pc ls st0) rest (va_Qi post (mt_Q D w1 (va_A cx H.size)) (va_A cx H.size) a) (va_A cx H.size)) (hP : va_P D vwCl (X ++ T) H) (hD : va_D A (X ++ T)) (hS : va_S A s.heap H locs) (hA : ∀ q, s.heap.size ≤ q → A q) (isC isR : List Nat) (hC : isC.map (fun i => X[i]?) = cx.map some) (hC' : isC.map (fun i => (X ++ T)[i]?) = cx.map some) (hR : isR.map (fun i => X[i]?) = wr.map some) (hn : va_nd isR = true) (hdis : ∀ i ∈ isR, i ∉ isC)
    (kk : ∀ (r : Int32) (u : S) (H1 : Heap) (locs1 : List Loc), post r u → va_P D vwCl ((wr ++ w1 u) ++ T) H1 → va_D A ((wr ++ w1 u) ++ T) → va_S A s.heap H1 locs1 → W p l ev R s m args below meth c H1 locs1 (cells + mc) (slots + ms) Q (F0 m (pc + 3) ls (.int r :: rest))) : W p l ev R s m args below meth c H locs cells slots Q (F0 m pc ls st0) := by
  have hF := va_free (wc := cx) hD hS hA isC hC'
  refine va_calli hr hS (fun q _ h => hF q h) hF (fun r u t H1 locs1 ht hvm hw hB hz hk hS1 => ?_)
  obtain ⟨hP1, hD1⟩ := hB
  rw [ht] at hP1
  obtain ⟨g1, g2⟩ := va_joinQ (wr := wr) hP hD isC isR hC hR hn hdis hk hF hP1 hD1
  exact kk r u H1 locs1 hw g1 g2 hS1
theorem mt_calliP {S : Type} {post : Int32 → S → Prop} {w1 T1 : S → va_W} (hr : va_Run p l ev R s m args below meth c H locs cells slots mc ms (F0 m pc ls st0) rest (va_Qi post (mt_Q D (fun u => w1 u ++ T1 u) (va_A (cx ++ T) H.size)) (va_A (cx ++ T) H.size) a) (va_A (cx ++ T) H.size)) (hP : va_P D vwCl (X ++ T) H) (hD : va_D A (X ++ T)) (hS : va_S A s.heap H locs) (hA : ∀ q, s.heap.size ≤ q → A q) (isC isR : List Nat) (hC : isC.map (fun i => X[i]?) = cx.map some) (hR : isR.map (fun i => X[i]?) = wr.map some) (hn : va_nd isR = true) (hdis : ∀ i ∈ isR, i ∉ isC)
    (kk : ∀ (r : Int32) (u : S) (H1 : Heap) (locs1 : List Loc), post r u → va_P D vwCl ((wr ++ w1 u) ++ T1 u) H1 → va_D A ((wr ++ w1 u) ++ T1 u) → va_S A s.heap H1 locs1 → W p l ev R s m args below meth c H1 locs1 (cells + mc) (slots + ms) Q (F0 m (pc + 3) ls (.int r :: rest))) : W p l ev R s m args below meth c H locs cells slots Q (F0 m pc ls st0) := by
  have hF := va_freeP (cx := cx) hD hS hA isC hC
  refine va_calli hr hS (fun q _ h => hF q h) hF (fun r u t H1 locs1 ht hvm hw hB hz hk hS1 => ?_)
  obtain ⟨hP1, hD1⟩ := hB
  rw [ht] at hP1
  obtain ⟨g1, g2⟩ := va_joinP (wr := wr) hP hD isC isR hC hR hn hdis hk hF hP1 hD1
  exact kk r u H1 locs1 hw g1 g2 hS1
theorem mt_calllQ {S : Type} {post : Int64 → S → Prop} {w1 : S → va_W} (hr : va_Run p l ev R s m args below meth c H locs cells slots mc ms (F0 m pc ls st0) rest (va_Ql post (mt_Q D w1 (va_A cx H.size)) (va_A cx H.size) a) (va_A cx H.size)) (hP : va_P D vwCl (X ++ T) H) (hD : va_D A (X ++ T)) (hS : va_S A s.heap H locs) (hA : ∀ q, s.heap.size ≤ q → A q) (isC isR : List Nat) (hC : isC.map (fun i => X[i]?) = cx.map some) (hC' : isC.map (fun i => (X ++ T)[i]?) = cx.map some) (hR : isR.map (fun i => X[i]?) = wr.map some) (hn : va_nd isR = true) (hdis : ∀ i ∈ isR, i ∉ isC)
    (kk : ∀ (r : Int64) (u : S) (H1 : Heap) (locs1 : List Loc), post r u → va_P D vwCl ((wr ++ w1 u) ++ T) H1 → va_D A ((wr ++ w1 u) ++ T) → va_S A s.heap H1 locs1 → W p l ev R s m args below meth c H1 locs1 (cells + mc) (slots + ms) Q (F0 m (pc + 3) ls (.long r :: rest))) : W p l ev R s m args below meth c H locs cells slots Q (F0 m pc ls st0) := by
  have hF := va_free (wc := cx) hD hS hA isC hC'
  refine va_calll hr hS (fun q _ h => hF q h) hF (fun r u t H1 locs1 ht hvm hw hB hz hk hS1 => ?_)
  obtain ⟨hP1, hD1⟩ := hB
  rw [ht] at hP1
  obtain ⟨g1, g2⟩ := va_joinQ (wr := wr) hP hD isC isR hC hR hn hdis hk hF hP1 hD1
  exact kk r u H1 locs1 hw g1 g2 hS1
theorem mt_calllP {S : Type} {post : Int64 → S → Prop} {w1 T1 : S → va_W} (hr : va_Run p l ev R s m args below meth c H locs cells slots mc ms (F0 m pc ls st0) rest (va_Ql post (mt_Q D (fun u => w1 u ++ T1 u) (va_A (cx ++ T) H.size)) (va_A (cx ++ T) H.size) a) (va_A (cx ++ T) H.size)) (hP : va_P D vwCl (X ++ T) H) (hD : va_D A (X ++ T)) (hS : va_S A s.heap H locs) (hA : ∀ q, s.heap.size ≤ q → A q) (isC isR : List Nat) (hC : isC.map (fun i => X[i]?) = cx.map some) (hR : isR.map (fun i => X[i]?) = wr.map some) (hn : va_nd isR = true) (hdis : ∀ i ∈ isR, i ∉ isC)
    (kk : ∀ (r : Int64) (u : S) (H1 : Heap) (locs1 : List Loc), post r u → va_P D vwCl ((wr ++ w1 u) ++ T1 u) H1 → va_D A ((wr ++ w1 u) ++ T1 u) → va_S A s.heap H1 locs1 → W p l ev R s m args below meth c H1 locs1 (cells + mc) (slots + ms) Q (F0 m (pc + 3) ls (.long r :: rest))) : W p l ev R s m args below meth c H locs cells slots Q (F0 m pc ls st0) := by
  have hF := va_freeP (cx := cx) hD hS hA isC hC
  refine va_calll hr hS (fun q _ h => hF q h) hF (fun r u t H1 locs1 ht hvm hw hB hz hk hS1 => ?_)
  obtain ⟨hP1, hD1⟩ := hB
  rw [ht] at hP1
  obtain ⟨g1, g2⟩ := va_joinP (wr := wr) hP hD isC isR hC hR hn hdis hk hF hP1 hD1
  exact kk r u H1 locs1 hw g1 g2 hS1
theorem mt_callqQ {S : Type} {post : Option Nat → S → Prop} {w1 : S → va_W} (hr : va_Run p l ev R s m args below meth c H locs cells slots mc ms (F0 m pc ls st0) rest (va_Qq post (mt_Q D w1 (va_A cx H.size)) (va_A cx H.size) a) (va_A cx H.size)) (hP : va_P D vwCl (X ++ T) H) (hD : va_D A (X ++ T)) (hS : va_S A s.heap H locs) (hA : ∀ q, s.heap.size ≤ q → A q) (isC isR : List Nat) (hC : isC.map (fun i => X[i]?) = cx.map some) (hC' : isC.map (fun i => (X ++ T)[i]?) = cx.map some) (hR : isR.map (fun i => X[i]?) = wr.map some) (hn : va_nd isR = true) (hdis : ∀ i ∈ isR, i ∉ isC)
    (kk : ∀ (r : Option Nat) (u : S) (H1 : Heap) (locs1 : List Loc), post r u → va_P D vwCl ((wr ++ w1 u) ++ T) H1 → va_D A ((wr ++ w1 u) ++ T) → va_S A s.heap H1 locs1 → W p l ev R s m args below meth c H1 locs1 (cells + mc) (slots + ms) Q (F0 m (pc + 3) ls (va_rf r :: rest))) : W p l ev R s m args below meth c H locs cells slots Q (F0 m pc ls st0) := by
  have hF := va_free (wc := cx) hD hS hA isC hC'
  refine va_callq hr hS (fun q _ h => hF q h) hF (fun r u t H1 locs1 ht hvm hw hB hz hk hS1 => ?_)
  obtain ⟨hP1, hD1⟩ := hB
  rw [ht] at hP1
  obtain ⟨g1, g2⟩ := va_joinQ (wr := wr) hP hD isC isR hC hR hn hdis hk hF hP1 hD1
  exact kk r u H1 locs1 hw g1 g2 hS1
theorem mt_callqP {S : Type} {post : Option Nat → S → Prop} {w1 T1 : S → va_W} (hr : va_Run p l ev R s m args below meth c H locs cells slots mc ms (F0 m pc ls st0) rest (va_Qq post (mt_Q D (fun u => w1 u ++ T1 u) (va_A (cx ++ T) H.size)) (va_A (cx ++ T) H.size) a) (va_A (cx ++ T) H.size)) (hP : va_P D vwCl (X ++ T) H) (hD : va_D A (X ++ T)) (hS : va_S A s.heap H locs) (hA : ∀ q, s.heap.size ≤ q → A q) (isC isR : List Nat) (hC : isC.map (fun i => X[i]?) = cx.map some) (hR : isR.map (fun i => X[i]?) = wr.map some) (hn : va_nd isR = true) (hdis : ∀ i ∈ isR, i ∉ isC)
    (kk : ∀ (r : Option Nat) (u : S) (H1 : Heap) (locs1 : List Loc), post r u → va_P D vwCl ((wr ++ w1 u) ++ T1 u) H1 → va_D A ((wr ++ w1 u) ++ T1 u) → va_S A s.heap H1 locs1 → W p l ev R s m args below meth c H1 locs1 (cells + mc) (slots + ms) Q (F0 m (pc + 3) ls (va_rf r :: rest))) : W p l ev R s m args below meth c H locs cells slots Q (F0 m pc ls st0) := by
  have hF := va_freeP (cx := cx) hD hS hA isC hC
  refine va_callq hr hS (fun q _ h => hF q h) hF (fun r u t H1 locs1 ht hvm hw hB hz hk hS1 => ?_)
  obtain ⟨hP1, hD1⟩ := hB
  rw [ht] at hP1
  obtain ⟨g1, g2⟩ := va_joinP (wr := wr) hP hD isC isR hC hR hn hdis hk hF hP1 hD1
  exact kk r u H1 locs1 hw g1 g2 hS1
theorem mt_callvQ {S : Type} {post : S → Prop} {w1 : S → va_W} (hr : va_Run p l ev R s m args below meth c H locs cells slots mc ms (F0 m pc ls st0) rest (va_Qv post (mt_Q D w1 (va_A cx H.size)) (va_A cx H.size) a) (va_A cx H.size)) (hP : va_P D vwCl (X ++ T) H) (hD : va_D A (X ++ T)) (hS : va_S A s.heap H locs) (hA : ∀ q, s.heap.size ≤ q → A q) (isC isR : List Nat) (hC : isC.map (fun i => X[i]?) = cx.map some) (hC' : isC.map (fun i => (X ++ T)[i]?) = cx.map some) (hR : isR.map (fun i => X[i]?) = wr.map some) (hn : va_nd isR = true) (hdis : ∀ i ∈ isR, i ∉ isC)
    (kk : ∀ (u : S) (H1 : Heap) (locs1 : List Loc), post u → va_P D vwCl ((wr ++ w1 u) ++ T) H1 → va_D A ((wr ++ w1 u) ++ T) → va_S A s.heap H1 locs1 → W p l ev R s m args below meth c H1 locs1 (cells + mc) (slots + ms) Q (F0 m (pc + 3) ls rest)) : W p l ev R s m args below meth c H locs cells slots Q (F0 m pc ls st0) := by
  have hF := va_free (wc := cx) hD hS hA isC hC'
  refine va_callv hr hS (fun q _ h => hF q h) hF (fun u t H1 locs1 ht hvm hw hB hz hk hS1 => ?_)
  obtain ⟨hP1, hD1⟩ := hB
  rw [ht] at hP1
  obtain ⟨g1, g2⟩ := va_joinQ (wr := wr) hP hD isC isR hC hR hn hdis hk hF hP1 hD1
  exact kk u H1 locs1 hw g1 g2 hS1
theorem mt_callvP {S : Type} {post : S → Prop} {w1 T1 : S → va_W} (hr : va_Run p l ev R s m args below meth c H locs cells slots mc ms (F0 m pc ls st0) rest (va_Qv post (mt_Q D (fun u => w1 u ++ T1 u) (va_A (cx ++ T) H.size)) (va_A (cx ++ T) H.size) a) (va_A (cx ++ T) H.size)) (hP : va_P D vwCl (X ++ T) H) (hD : va_D A (X ++ T)) (hS : va_S A s.heap H locs) (hA : ∀ q, s.heap.size ≤ q → A q) (isC isR : List Nat) (hC : isC.map (fun i => X[i]?) = cx.map some) (hR : isR.map (fun i => X[i]?) = wr.map some) (hn : va_nd isR = true) (hdis : ∀ i ∈ isR, i ∉ isC)
    (kk : ∀ (u : S) (H1 : Heap) (locs1 : List Loc), post u → va_P D vwCl ((wr ++ w1 u) ++ T1 u) H1 → va_D A ((wr ++ w1 u) ++ T1 u) → va_S A s.heap H1 locs1 → W p l ev R s m args below meth c H1 locs1 (cells + mc) (slots + ms) Q (F0 m (pc + 3) ls rest)) : W p l ev R s m args below meth c H locs cells slots Q (F0 m pc ls st0) := by
  have hF := va_freeP (cx := cx) hD hS hA isC hC
  refine va_callv hr hS (fun q _ h => hF q h) hF (fun u t H1 locs1 ht hvm hw hB hz hk hS1 => ?_)
  obtain ⟨hP1, hD1⟩ := hB
  rw [ht] at hP1
  obtain ⟨g1, g2⟩ := va_joinP (wr := wr) hP hD isC isR hC hR hn hdis hk hF hP1 hD1
  exact kk u H1 locs1 hw g1 g2 hS1

/-- a new array of references to objects: its class is the one that is known already -/
theorem nq_new (hexec : p.tables.exec = Jvm.exec) (hb : c.code = cc) {own : String} {index : Nat} (hown : s.vm.findClass own = some m.cls) (hclink : (Cond.classLink own index "java/lang/Object").before args s = true) (hK : va_K D vwCl (TY cy) s) (hG : gl_G e A s s.heap) (hP : va_P D vwCl X H) (hD : va_D A X) (hS : va_S A s.heap H locs) (hA : ∀ q, s.heap.size ≤ q → A q)
    {n : Int32} {N' : Nat} (hn : ¬ n < 0) (hN : n.toNatClampNeg = N') (hbytes : N' * 4 ≤ 536870912) (hcells : cells + 1 ≤ R.cells) (hslots : slots + N' ≤ R.slots) (hdg : decode cc pc = .ok (.anewarray index, 3))
    (kk : ∀ (q : Nat) (H1 : Heap), va_P D vwCl (X ++ [(q, .inl (cy 5, N', .inr (.inr (.inr (.inr (fun _ => none))))))]) H1 → va_D A (X ++ [(q, .inl (cy 5, N', .inr (.inr (.inr (.inr (fun _ => none))))))]) → va_S A s.heap H1 locs →
      W p l ev R s m args below meth c H1 locs (cells + 1) (slots + N') Q (F0 m (pc + 3) ls (.ref q :: rest))) : W p l ev R s m args below meth c H locs cells slots Q (F0 m pc ls (.int n :: rest)) := by
  refine va_newq hexec hb hown hclink hG.gX.2.2.2.2.2.2.2.1 hK hP hD hS hA hn hN hbytes hcells hslots hdg (fun q cB H1 hK1 hP1 hD1 hS1 => ?_)
  have h1 := (hK.2 5 (cy 5, .object "java/lang/Object") rfl).2
  have h2 := (hK1.2 (TY cy).length (cB, .object "java/lang/Object") (by rw [List.getElem?_append_right (Nat.le_refl _), Nat.sub_self]; rfl)).2
  obtain ⟨_, _, _, _, _, e1⟩ := h1
  obtain ⟨_, _, _, _, _, e2⟩ := h2
  have hc : cB = cy 5 := Option.some.inj (e2.symm.trans e1)
  subst hc
  exact kk q H1 hP1 hD1 hS1
theorem aldq_s (hexec : p.tables.exec = Jvm.exec) (hb : c.code = cc) (hK : va_K D vwCl (TY cy) s) (hP : va_P D vwCl X H) (q0 : Nat) {a0 n q : Nat} {f : Nat → Option Nat} (ha : X[q0]? = some (a0, .inl (cy 5, n, .inr (.inr (.inr (.inr f)))))) {i : Int32} (hin : vp_in i n) (hf : f i.toNatClampNeg = some q) (hdg : decode cc pc = .ok (.aaload, 1))
    (kk : W p l ev R s m args below meth c H locs cells slots Q (F0 m (pc + 1) ls (.ref q :: rest))) : W p l ev R s m args below meth c H locs cells slots Q (F0 m pc ls (.int i :: .ref a0 :: rest)) := by
  refine va_aldq hexec hb hK hP q0 5 ha rfl hin hdg ?_
  rw [hf]
  exact kk
theorem oa_cls (hK : va_K D vwCl (TY cy) s) (hP : va_P D vwCl X H) (q0 : Nat) {a0 n : Nat} {f : Nat → Option Nat} (ha : X[q0]? = some (a0, .inl (cy 5, n, .inr (.inr (.inr (.inr f)))))) : ∃ cell : Cell, H[a0]? = some cell ∧ cell.vm.isStatics = false ∧ s.vm.findClass "[Ljava/lang/Object;" = some cell.cls := by
  have h1 := (hK.2 5 (cy 5, .object "java/lang/Object") rfl).2
  obtain ⟨_, _, _, _, _, e1⟩ := h1
  have h2 : H[a0]? = some (vp_cell (cy 5) (n, .inr (.inr (.inr (.inr f))))) := hP q0 _ ha
  exact ⟨_, h2, rfl, e1⟩
theorem oa_nm (hK : va_K D vwCl (TY cy) s) : s.vm.findClass "[Ljava/lang/Object;" = some (cy 5) := by
  have h1 := (hK.2 5 (cy 5, .object "java/lang/Object") rfl).2
  obtain ⟨_, _, _, _, _, e1⟩ := h1
  exact e1
end Tail
/-- a row: its cell, its acts' cell, its numbers, its acts -/
abbrev rwT : Type := Nat × Nat × (Nat → Int32) × (Nat → Int32)
def rcell (cy : Nat → ClassId) (x : rwT) : va_W := [(x.1, .inr (4, [.ref x.2.1, .int (x.2.2.1 1), .int (x.2.2.1 2), .int (x.2.2.1 3), .int (x.2.2.1 4), .int (x.2.2.1 5), .int (x.2.2.1 6), .int (x.2.2.1 7), .int (x.2.2.1 8), .int (x.2.2.1 9), .int (x.2.2.1 10), .int (x.2.2.1 11), .int (x.2.2.1 12)])), (x.2.1, .inl (cy 1, 8, .inl x.2.2.2))]
def rpool (cy : Nat → ClassId) (rs : List rwT) : va_W := rs.flatMap (rcell cy)
def acell (cy : Nat → ClassId) (ea n : Nat) (f : Nat → Option Nat) : Nat × va_E := (ea, .inl (cy 5, n, .inr (.inr (.inr (.inr f)))))
def ltail (cy : Nat → ClassId) (ea n : Nat) (f : Nat → Option Nat) (rs : List rwT) : va_W := match rs with
  | [] => []
  | x :: r => acell cy ea n f :: rpool cy (x :: r)
def lsok (e : Nat → Nat) (ea n : Nat) (f : Nat → Option Nat) (rs : List rwT) : Prop := (rs = [] → ea = e 0) ∧ (rs ≠ [] → 10 ≤ n) ∧ rs.length ≤ n ∧ ∀ (i : Nat) (x : rwT), rs[i]? = some x → f i = some x.1
theorem ltail_mid {cy : Nat → ClassId} {ea n : Nat} {f : Nat → Option Nat} {pre post : List rwT} {x : rwT} : ltail cy ea n f (pre ++ x :: post) = acell cy ea n f :: rpool cy (pre ++ x :: post) := by
  cases pre <;> rfl
theorem ltail_ne {cy : Nat → ClassId} {ea n : Nat} {f : Nat → Option Nat} {rs : List rwT} (h : rs ≠ []) : ltail cy ea n f rs = acell cy ea n f :: rpool cy rs := by
  cases rs with
  | nil => exact absurd rfl h
  | cons _ _ => rfl
theorem foc_perm {cy : Nat → ClassId} {ea n : Nat} {f : Nat → Option Nat} {pre post : List rwT} {x : rwT} {X : va_W} : (X ++ ltail cy ea n f (pre ++ x :: post)).Perm ((X ++ (acell cy ea n f :: rcell cy x)) ++ rpool cy (pre ++ post)) := by
  rw [ltail_mid]
  unfold rpool
  rw [List.flatMap_append, List.flatMap_append, List.flatMap_cons, List.append_assoc]
  refine List.Perm.append_left X ?_
  refine List.Perm.cons _ ?_
  show (List.flatMap (rcell cy) pre ++ (rcell cy x ++ List.flatMap (rcell cy) post)).Perm (rcell cy x ++ (List.flatMap (rcell cy) pre ++ List.flatMap (rcell cy) post))
  rw [← List.append_assoc, ← List.append_assoc]
  exact List.Perm.append_right _ List.perm_append_comm
theorem foc_split {rs : List rwT} {i : Nat} (h : i < rs.length) : ∃ pre x post, rs = pre ++ x :: post ∧ pre.length = i := by
  refine ⟨rs.take i, rs[i], rs.drop (i + 1), ?_, by rw [List.length_take]; omega⟩
  rw [List.getElem_cons_drop, List.take_append_drop]
theorem ls_at {e : Nat → Nat} {ea n : Nat} {f : Nat → Option Nat} {pre post : List rwT} {x : rwT} (h : lsok e ea n f (pre ++ x :: post)) : f pre.length = some x.1 := h.2.2.2 _ x (by rw [List.getElem?_append_right (Nat.le_refl _), Nat.sub_self]; rfl)
theorem ls_set {e : Nat → Nat} {ea n : Nat} {f : Nat → Option Nat} {pre post : List rwT} {x y : rwT} (h : lsok e ea n f (pre ++ x :: post)) (hy : y.1 = x.1) : lsok e ea n f (pre ++ y :: post) := by
  refine ⟨fun h0 => by simp at h0, fun _ => h.2.1 (by simp), ?_, ?_⟩
  · have := h.2.2.1
    rw [List.length_append, List.length_cons] at this ⊢
    exact this
  · intro i z hz
    by_cases hi : i < pre.length
    · exact h.2.2.2 i z (by rw [List.getElem?_append_left hi] at hz ⊢; exact hz)
    · rw [List.getElem?_append_right (by omega)] at hz
      by_cases h0 : i - pre.length = 0
      · rw [h0] at hz
        have hz' : y = z := Option.some.inj hz
        have e1 : i = pre.length := by omega
        rw [e1, ← hz', hy]
        exact ls_at h
      · refine h.2.2.2 i z ?_
        rw [List.getElem?_append_right (by omega)]
        obtain ⟨k, hk⟩ : ∃ k, i - pre.length = k + 1 := ⟨i - pre.length - 1, by omega⟩
        rw [hk] at hz ⊢
        exact hz
theorem ls_len {pre post : List rwT} {x y : rwT} : (pre ++ y :: post).length = (pre ++ x :: post).length := by simp
theorem rcell_hd (cy : Nat → ClassId) (x : rwT) : ∃ fs, ((x.1, Sum.inr (4, fs)) : Nat × va_E) ∈ rcell cy x := ⟨_, List.mem_cons_self⟩
theorem pool_any {D : va_G} {cy : Nat → ClassId} {e : Nat → Nat} {A : Nat → Prop} {s : State} {H : Heap} {X : va_W} {ea n : Nat} {f : Nat → Option Nat} {rs : List rwT} (hK : va_K D vwCl (TY cy) s) (hG : gl_G e A s s.heap) (hP : va_P D vwCl (X ++ rpool cy rs) H) (hl : lsok e ea n f rs) : ∀ i : Nat, i < rs.length → ∀ y : Nat, f i = some y → va_Any "java/lang/Object" s H y := by
  intro i hi y hy
  have h1 := hl.2.2.2 i rs[i] (List.getElem?_eq_getElem hi)
  rw [h1] at hy
  have hy' := Option.some.inj hy
  subst hy'
  obtain ⟨fs, hm0⟩ := rcell_hd cy rs[i]
  have hm : ((rs[i].1, Sum.inr (4, fs)) : Nat × va_E) ∈ X ++ rpool cy rs := List.mem_append_right _ (List.mem_flatMap.mpr ⟨rs[i], List.getElem_mem hi, hm0⟩)
  obtain ⟨k, hk⟩ := List.mem_iff_getElem?.mp hm
  obtain ⟨c0, t1, f1, f2, f3⟩ := Cond.castable_spec (va_Nw.use (A := #[]) rfl hG.gX.2.2.2.2.2.2.1)
  exact va_rAny (r := (RX3, TX3, 13)) hK hP hk rfl (fun comp c1 h1 h2 => by cases f1.symm.trans h2; cases f2.symm.trans h1; exact f3)
theorem pool_snoc {cy : Nat → ClassId} {rs : List rwT} {x : rwT} : rpool cy (rs ++ [x]) = rpool cy rs ++ rcell cy x := by
  unfold rpool
  rw [List.flatMap_append]
  rfl
