def s_lv (ls : List (Option Value)) : List (Nat × Value) := (List.range ls.length).filterMap (fun i => (ls.getD i none).map (fun v => (i, v)))
theorem s_lv_mem {ls : List (Option Value)} {i : Nat} {v : Value} : (i, v) ∈ s_lv ls ↔ ls[i]? = some (some v) := by
  unfold s_lv
  rw [List.mem_filterMap]
  constructor
  · rintro ⟨j, hj, h⟩
    rw [List.mem_range] at hj
    rw [List.getD_eq_getElem?_getD, List.getElem?_eq_getElem hj] at h
    simp only [Option.getD_some, Option.map_eq_some_iff] at h
    obtain ⟨u, h1, h2⟩ := h
    cases h2
    rw [List.getElem?_eq_getElem hj, h1]
  · intro h
    have hl : i < ls.length := (List.getElem?_eq_some_iff.mp h).1
    exact ⟨i, List.mem_range.mpr hl, by rw [List.getD_eq_getElem?_getD, h]; rfl⟩
def s_lr (M : sM) (ls : List (Option Value)) (arr : Array Slot) : Prop := ls.length = M.2.2.1 ∧ lv_has arr M.2.2.1 (s_lv ls) ∧ (M.2.2.2.2 = false → ∀ (i : Nat) (v : Value), ls[i]? = some (some v) → v.category = 1)
theorem s_lr.at {M : sM} {ls : List (Option Value)} {arr : Array Slot} {i : Nat} {v : Value} (h : s_lr M ls arr) (hi : ls[i]? = some (some v)) : arr[i]? = some (.val v) := h.2.1.2.2 (i, v) (s_lv_mem.mpr hi)
theorem lv_mono {arr : Array Slot} {n : Nat} {l l' : List (Nat × Value)} (h : lv_has arr n l) (hs : ∀ q ∈ l', q ∈ l) : lv_has arr n l' := ⟨h.1, h.2.1, fun q hq => h.2.2 q (hs q hq)⟩
theorem s_lr.st1 {M : sM} {ls : List (Option Value)} {arr arr' : Array Slot} {k : Nat} {v : Value} (h : s_lr M ls arr) (hs : s_st M ls k) (hv : v.category = 1) (h' : lv_has arr' M.2.2.1 ((k, v) :: (s_lv ls).filter (fun q => !(q.1 == k) && !(q.1 + 1 == k && q.2.category == 2)))) : s_lr M (ls.set k (some v)) arr' := by
  refine ⟨by rw [List.length_set]; exact h.1, lv_mono h' ?_, fun hf i u hi => ?_⟩
  · rintro ⟨i, u⟩ hq
    rw [s_lv_mem, List.getElem?_set] at hq
    by_cases hki : k = i
    · subst hki
      rw [if_pos rfl] at hq
      split at hq
      · cases hq; exact List.mem_cons_self
      · cases hq
    · rw [if_neg hki] at hq
      refine List.mem_cons_of_mem _ (List.mem_filter.mpr ⟨s_lv_mem.mpr hq, ?_⟩)
      have h1 : ¬ i = k := fun z => hki z.symm
      by_cases h2 : i + 1 = k
      · have hc : u.category = 1 := by
          rcases hs.2 with hf | hc
          · exact h.2.2 hf i u hq
          · subst h2
            simpa [s_c1, hq] using hc
        simp [h1, hc]
      · simp [h1, h2]
  · rw [List.getElem?_set] at hi
    split at hi
    · split at hi
      · cases hi; exact hv
      · cases hi
    · exact h.2.2 hf i u hi
theorem s_lr.st2 {M : sM} {ls : List (Option Value)} {arr arr' : Array Slot} {k : Nat} {v : Value} (h : s_lr M ls arr) (hs : s_st M ls k) (hl : M.2.2.2.2 = true) (h' : lv_has arr' M.2.2.1 ((k, v) :: (s_lv ls).filter (fun q => !(q.1 == k) && (!(q.1 == k + 1) && !(q.1 + 1 == k && q.2.category == 2))))) : s_lr M ((ls.set k (some v)).set (k + 1) none) arr' := by
  refine ⟨by rw [List.length_set, List.length_set]; exact h.1, lv_mono h' ?_, fun hf => by rw [hl] at hf; cases hf⟩
  rintro ⟨i, u⟩ hq
  rw [s_lv_mem, List.getElem?_set] at hq
  by_cases hk1 : k + 1 = i
  · subst hk1
    rw [if_pos rfl] at hq
    split at hq <;> cases hq
  · rw [if_neg hk1, List.getElem?_set] at hq
    by_cases hki : k = i
    · subst hki
      rw [if_pos rfl] at hq
      split at hq
      · cases hq; exact List.mem_cons_self
      · cases hq
    · rw [if_neg hki] at hq
      refine List.mem_cons_of_mem _ (List.mem_filter.mpr ⟨s_lv_mem.mpr hq, ?_⟩)
      have h1 : ¬ i = k := fun z => hki z.symm
      have h3 : ¬ i = k + 1 := fun z => hk1 z.symm
      by_cases h2 : i + 1 = k
      · have hc : u.category = 1 := by
          rcases hs.2 with hf | hc
          · exact h.2.2 hf i u hq
          · subst h2
            simpa [s_c1, hq] using hc
        simp [h1, h3, hc]
      · simp [h1, h2, h3]
theorem s_N.same {s U : State} (hv : s.vm = U.vm) (h : s_N s) : s_N U := by
  intro x hx hn
  have h1 := h x hx hn
  cases x <;> first | exact va_Nw.same rfl hv h1 | (simp [s_nest] at hn)
theorem s_FX.go {G : sG} {s U : State} {H : Heap} {locs : List Loc} (h : s_FX G s s.heap) (hS : va_S (s_A G) s.heap H locs) (hvm : s.vm.Alike U.vm) : s_FX G U H := by
  obtain ⟨h1, h2, h3, h4, h5, h6⟩ := h
  have hk : ∀ q : Nat, q < s.heap.size → ¬ s_A G q → H[q]? = s.heap[q]? := hS.2.1
  exact ⟨(h1.kept (hk _ (Nat.lt_of_lt_of_le h2 h6) (Nat.not_le.mpr h2))).moved hvm, h2, h3, (h4.kept hk).moved hvm, ⟨(h5.1.kept hk).moved hvm, h5.2.1.moved hvm, h5.2.2.moved hvm⟩, Nat.le_trans h6 hS.1⟩
theorem s_blind {D : va_G} {G : sG} {w : sW} {vs : List Value} : FrameBlind (va_Pc vs (s_U D G w)) := by
  intro a U g mk q
  obtain ⟨q0, q1, q2, q3, q4⟩ := q
  refine ⟨q0, q1, va_K.moved (u := U) (U := U.calling g mk a) (Vm.Alike.refl U.vm) q2, s_N.same (s := U) rfl q3, ?_⟩
  obtain ⟨h1, h2, h3, h4, h5, h6⟩ := q4
  exact ⟨va_X.moved (u := U) (U := U.calling g mk a) (Vm.Alike.refl U.vm) h1, h2, h3, va_Z.moved (u := U) (U := U.calling g mk a) (Vm.Alike.refl U.vm) h4, ⟨va_T.moved (u := U) (U := U.calling g mk a) (Vm.Alike.refl U.vm) h5.1, va_AO.moved (u := U) (U := U.calling g mk a) (Vm.Alike.refl U.vm) h5.2.1, va_AO.moved (u := U) (U := U.calling g mk a) (Vm.Alike.refl U.vm) h5.2.2⟩, h6⟩
theorem s_good {ws : List Jvm.Cond} (h : ∀ x ∈ ws, x ∈ s_gw) : GoodIn s_gw ws := fun x hx => ⟨h x hx, good_of_word (List.mem_filter.mp (h x hx)).2⟩
theorem s_wsIn {y : MethodName} {cc : ByteArray} {maxL : Nat} {ret : Option FieldType} (h : inT (.code y cc maxL ret)) : ∀ x ∈ s_ws y cc maxL ret, x ∈ s_gw := fun x hx => by
  rcases List.mem_cons.mp hx with rfl | hx
  · exact s_in h rfl
  · exact hx
def s_IW (p : Program) (l : Launch) (e : Env) (R : Room) (s : State) (m : MethodId) (args : Array Value) (below : List Frame) (meth : Method) (c : Code) (Q : State → Prop) (D : va_G) (G : sG) (M : sM) : sI := fun pc ls st w κ => ∀ (H : Heap) (locs : List Loc) (cells slots : Nat) (arr : Array Slot), s_rel D G w H → va_S (s_A G) s.heap H locs → s_lr M ls arr → cells + κ.1 ≤ R.cells → slots + κ.2 ≤ R.slots → W p l e R s m args below meth c H locs cells slots Q (F0 m pc arr st)
def s_cx (D : va_G) (G : sG) (M : sM) (d : Nat) (p : Program) (R : Room) (s : State) (m : MethodId) (args : Array Value) (meth : Method) (c : Code) : Prop := p.tables.exec = Jvm.exec ∧ c.code = M.2.1 ∧ c.maxLocals = M.2.2.1 ∧ s.vm.findClass M.1.cls = some m.cls ∧ (∀ x ∈ s_gw, x.before args s = true) ∧ s_N s ∧ va_K D vwCl (s_tys G) s ∧ (M.1.name = "<init>" → meth.name = "<init>") ∧ s_FX G s s.heap ∧ d + 1 ≤ R.frames ∧ 64 * d + 64 ≤ R.locals
def s_sd (l : Launch) (D : va_G) (G : sG) (d : Nat) : Prop := ∀ (y : MethodName) (κ : Nat × Nat) (vs : List Value) (w : sW) (P : sQ), wpM G d y κ vs w P → ∃ (cc : ByteArray) (maxL : Nat) (ret : Option FieldType), inT (.code y cc maxL ret) ∧ maxL ≤ 40 ∧ (y.name = "<init>" → ret = none) ∧ Met l y (s_ws y cc maxL ret) (s_rm d κ) (va_Pc vs (s_U D G w)) (s_Qc D G P) κ.1 κ.2 (s_A G)
section SCL
variable {p : Program} {l : Launch} {e : Env} {R : Room} {s : State} {m : MethodId} {args : Array Value} {below : List Frame} {meth : Method} {c : Code} {Q : State → Prop} {D : va_G} {G : sG} {M : sM} {d : Nat} {P : sQ}
theorem s_call {H : Heap} {locs : List Loc} {cells slots pc mc ms : Nat} {ls : Array Slot} {st0 rest : List Value} {a : Array Value} (hr : va_Run p l e R s m args below meth c H locs cells slots mc ms (F0 m pc ls st0) rest (s_Qc D G P a) (s_A G)) (hS : va_S (s_A G) s.heap H locs)
    (kk : ∀ (r : Option Value) (w' : sW) (H1 : Heap) (locs1 : List Loc), P r w' → s_rel D G w' H1 → va_S (s_A G) s.heap H1 locs1 → W p l e R s m args below meth c H1 locs1 (cells + mc) (slots + ms) Q (F0 m (pc + 3) ls (r.toList ++ rest))) : W p l e R s m args below meth c H locs cells slots Q (F0 m pc ls st0) := by
  intro T hT X
  obtain ⟨v, st₀, t, T', L, h0, X', hL, e1, e2, ⟨⟨r, w', hv, hp, hrel⟩, hz, hk⟩, st⟩ := hr T hT X
  cases hv
  rw [h0] at hz hk
  obtain ⟨t2, a1, b1⟩ := kk v w' T'.heap (locs ++ L) hp (by rw [e1]; exact hrel)
    ⟨Nat.le_trans hS.1 (by rw [e1]; exact hz), fun q h1 h2 => by rw [e1, hk q (Nat.not_le.mp h2)]; exact hS.2.1 q h1 h2, fun q hq => by
      rcases List.mem_append.mp hq with h | h
      · exact hS.2.2 q h
      · exact hL q h⟩ T' rfl X'
  exact ⟨t2, st t2 a1, b1⟩
set_option maxHeartbeats 40000000 in
theorem s_close (C0 : s_cx D G M d p R s m args meth c) (IH : s_sd l D G d)
    (hri : ∀ (pc : Nat) (v : Int32) (ty : FieldType) (w : sW) (H : Heap) (locs : List Loc) (cells slots : Nat) (arr : Array Slot), decode M.2.1 pc = .ok (.ireturn, 1) → M.2.2.2.1 = some ty → narrow ty (.int v) = .int v → P (some (.int v)) w → s_rel D G w H → va_S (s_A G) s.heap H locs → cells ≤ R.cells → slots ≤ R.slots → W p l e R s m args below meth c H locs cells slots Q (F0 m pc arr [.int v]))
    (hrv : ∀ (pc : Nat) (w : sW) (H : Heap) (locs : List Loc) (cells slots : Nat) (arr : Array Slot), decode M.2.1 pc = .ok (.return_, 1) → M.2.2.2.1 = none → P none w → s_rel D G w H → va_S (s_A G) s.heap H locs → cells ≤ R.cells → slots ≤ R.slots → W p l e R s m args below meth c H locs cells slots Q (F0 m pc arr [])) :
    ∀ pc ls st w κ, s_step G (wpM G d) M P (s_IW p l e R s m args below meth c Q D G M) pc ls st w κ → s_IW p l e R s m args below meth c Q D G M pc ls st w κ := by
  obtain ⟨hx, hb, hml, hown, hts, hN, hK, hmn, hFX, hRf, hRl⟩ := C0
  have hPre : ∀ (w : sW) (H : Heap) (locs : List Loc) (vs : List Value), s_rel D G w H → va_S (s_A G) s.heap H locs → PreS s H (va_Pc vs (s_U D G w)) vs := fun w H locs vs hr hS =>
    ⟨s_blind, fun U hU hW => ⟨rfl, by rw [hU]; exact hr, va_K.moved hW.alike hK, s_N.warm hW hN, by rw [hU]; exact s_FX.go hFX hS hW.alike⟩⟩
  intro pc ls st w κ ⟨i, len, hd, h⟩ H locs cells slots arr hr hS hl hc1 hc2
  cases i
  case iconst n =>
    obtain ⟨rfl, h⟩ := h
    exact lv_iconst hx hb hd rfl (h _ _ _ _ _ hr hS hl hc1 hc2)
  case bipush n =>
    obtain ⟨rfl, h⟩ := h
    exact lv_bipush hx hb hd rfl (h _ _ _ _ _ hr hS hl hc1 hc2)
  case sipush n =>
    obtain ⟨rfl, h⟩ := h
    exact lv_sipush hx hb hd rfl (h _ _ _ _ _ hr hS hl hc1 hc2)
  case lconst n =>
    obtain ⟨rfl, h⟩ := h
    exact lv_lconst hx hb hd rfl (h _ _ _ _ _ hr hS hl hc1 hc2)
  case ldc k =>
    obtain ⟨rfl, v, hv, h⟩ := h
    exact lv_ldc hx hb hown (hts _ (s_in hv rfl)) hd (h _ _ _ _ _ hr hS hl hc1 hc2)
  case ldc_w k =>
    obtain ⟨rfl, v, hv, h⟩ := h
    exact lv_ldcw hx hb hown (hts _ (s_in hv rfl)) hd (h _ _ _ _ _ hr hS hl hc1 hc2)
  case ldc2_w k =>
    obtain ⟨rfl, v, hv, h⟩ := h
    exact lv_ldc2 hx hb hown (hts _ (s_in hv rfl)) hd (h _ _ _ _ _ hr hS hl hc1 hc2)
  case iload_n k =>
    obtain ⟨rfl, x, hv, h⟩ := h
    exact lv_iload_n hx hb hd rfl (hl.at hv) (h _ _ _ _ _ hr hS hl hc1 hc2)
  case iload k =>
    obtain ⟨rfl, x, hv, h⟩ := h
    exact lv_iload hx hb hd (hl.at hv) (h _ _ _ _ _ hr hS hl hc1 hc2)
  case lload_n k =>
    obtain ⟨rfl, x, hv, h⟩ := h
    exact lv_lload_n hx hb hd rfl (hl.at hv) (h _ _ _ _ _ hr hS hl hc1 hc2)
  case lload k =>
    obtain ⟨rfl, x, hv, h⟩ := h
    exact lv_lload hx hb hd (hl.at hv) (h _ _ _ _ _ hr hS hl hc1 hc2)
  case aload_n k =>
    obtain ⟨rfl, x, hv, h⟩ := h
    exact lv_aload_n hx hb hd rfl (hl.at hv) (h _ _ _ _ _ hr hS hl hc1 hc2)
  case aload k =>
    obtain ⟨rfl, x, hv, h⟩ := h
    exact lv_aload hx hb hd (hl.at hv) (h _ _ _ _ _ hr hS hl hc1 hc2)
  case istore_n k =>
    obtain ⟨rfl, x, st', rfl, hs, h⟩ := h
    exact lv_istore_n hx hb hd rfl hl.2.1 hs.1 rfl (fun arr' h' => h _ _ _ _ _ hr hS (hl.st1 hs rfl h') hc1 hc2)
  case istore k =>
    obtain ⟨rfl, x, st', rfl, hs, h⟩ := h
    exact lv_istore hx hb hd hl.2.1 hs.1 rfl (fun arr' h' => h _ _ _ _ _ hr hS (hl.st1 hs rfl h') hc1 hc2)
  case astore_n k =>
    obtain ⟨rfl, x, st', rfl, hs, h⟩ := h
    exact lv_astore_n hx hb hd rfl hl.2.1 hs.1 rfl (fun arr' h' => h _ _ _ _ _ hr hS (hl.st1 hs rfl h') hc1 hc2)
  case astore k =>
    obtain ⟨rfl, x, st', rfl, hs, h⟩ := h
    exact lv_astore hx hb hd hl.2.1 hs.1 rfl (fun arr' h' => h _ _ _ _ _ hr hS (hl.st1 hs rfl h') hc1 hc2)
  case lstore_n k =>
    obtain ⟨rfl, x, st', rfl, hs, hs1, hs2, h⟩ := h
    exact lv_lstore_n hx hb hd rfl hl.2.1 hs2 rfl (fun arr' h' => h _ _ _ _ _ hr hS (hl.st2 hs hs1 h') hc1 hc2)
  case lstore k =>
    obtain ⟨rfl, x, st', rfl, hs, hs1, hs2, h⟩ := h
    exact lv_lstore hx hb hd hl.2.1 hs2 rfl (fun arr' h' => h _ _ _ _ _ hr hS (hl.st2 hs hs1 h') hc1 hc2)
  case iinc k n =>
    obtain ⟨rfl, x, hv, hs, h⟩ := h
    obtain ⟨j, hj⟩ := List.getElem?_of_mem (s_lv_mem.mpr hv)
    exact lv_iinc hx hb hd hl.2.1 hj rfl hs.1 rfl (fun arr' h' => h _ _ _ _ _ hr hS (hl.st1 hs rfl h') hc1 hc2)
  case iadd =>
    obtain ⟨rfl, x, y, st', rfl, h⟩ := h
    exact lv_iadd hx hb hd (h _ _ _ _ _ hr hS hl hc1 hc2)
  case isub =>
    obtain ⟨rfl, x, y, st', rfl, h⟩ := h
    exact lv_isub hx hb hd (h _ _ _ _ _ hr hS hl hc1 hc2)
  case imul =>
    obtain ⟨rfl, x, y, st', rfl, h⟩ := h
    exact lv_imul hx hb hd (h _ _ _ _ _ hr hS hl hc1 hc2)
  case iand =>
    obtain ⟨rfl, x, y, st', rfl, h⟩ := h
    exact lv_iand hx hb hd (h _ _ _ _ _ hr hS hl hc1 hc2)
  case ior =>
    obtain ⟨rfl, x, y, st', rfl, h⟩ := h
    exact lv_ior hx hb hd (h _ _ _ _ _ hr hS hl hc1 hc2)
  case ixor =>
    obtain ⟨rfl, x, y, st', rfl, h⟩ := h
    exact lv_ixor hx hb hd (h _ _ _ _ _ hr hS hl hc1 hc2)
  case ishl =>
    obtain ⟨rfl, x, y, st', rfl, h⟩ := h
    exact lv_ishl hx hb hd (h _ _ _ _ _ hr hS hl hc1 hc2)
  case ishr =>
    obtain ⟨rfl, x, y, st', rfl, h⟩ := h
    exact lv_ishr hx hb hd (h _ _ _ _ _ hr hS hl hc1 hc2)
  case ladd =>
    obtain ⟨rfl, x, y, st', rfl, h⟩ := h
    exact lv_ladd hx hb hd (h _ _ _ _ _ hr hS hl hc1 hc2)
  case lsub =>
    obtain ⟨rfl, x, y, st', rfl, h⟩ := h
    exact lv_lsub hx hb hd (h _ _ _ _ _ hr hS hl hc1 hc2)
  case land =>
    obtain ⟨rfl, x, y, st', rfl, h⟩ := h
    exact lv_land hx hb hd (h _ _ _ _ _ hr hS hl hc1 hc2)
  case lor =>
    obtain ⟨rfl, x, y, st', rfl, h⟩ := h
    exact lv_lor hx hb hd (h _ _ _ _ _ hr hS hl hc1 hc2)
  case i2l =>
    obtain ⟨rfl, x, st', rfl, h⟩ := h
    exact lv_i2l hx hb hd rfl (h _ _ _ _ _ hr hS hl hc1 hc2)
  case l2i =>
    obtain ⟨rfl, x, st', rfl, h⟩ := h
    exact lv_l2i hx hb hd rfl (h _ _ _ _ _ hr hS hl hc1 hc2)
  case i2c =>
    obtain ⟨rfl, x, st', rfl, h⟩ := h
    exact lv_i2c hx hb hd rfl (h _ _ _ _ _ hr hS hl hc1 hc2)
  case ineg =>
    obtain ⟨rfl, x, st', rfl, h⟩ := h
    exact lv_ineg hx hb hd (h _ _ _ _ _ hr hS hl hc1 hc2)
  case iushr =>
    obtain ⟨rfl, x, y, st', rfl, h⟩ := h
    exact lv_iushr hx hb hd rfl (h _ _ _ _ _ hr hS hl hc1 hc2)
  case lshl =>
    obtain ⟨rfl, x, y, st', rfl, h⟩ := h
    exact lv_lshl hx hb hd rfl (h _ _ _ _ _ hr hS hl hc1 hc2)
  case lushr =>
    obtain ⟨rfl, x, y, st', rfl, h⟩ := h
    exact lv_lushr hx hb hd rfl (h _ _ _ _ _ hr hS hl hc1 hc2)
  case idiv =>
    obtain ⟨rfl, x, y, st', rfl, hy, h⟩ := h
    exact lv_idiv hx hb hd hy (h _ _ _ _ _ hr hS hl hc1 hc2)
  case irem =>
    obtain ⟨rfl, x, y, st', rfl, hy, h⟩ := h
    exact lv_irem hx hb hd hy (h _ _ _ _ _ hr hS hl hc1 hc2)
  case lcmp =>
    obtain ⟨rfl, x, y, st', rfl, h⟩ := h
    exact W.lcmp hx hb hd (h _ _ _ _ _ hr hS hl hc1 hc2)
  case dup =>
    obtain ⟨rfl, v, st', rfl, hv, h⟩ := h
    exact lv_dup hx hb hd hv (h _ _ _ _ _ hr hS hl hc1 hc2)
  case dup2 =>
    obtain ⟨rfl, v, u, st', rfl, hv, hu, h⟩ := h
    exact lv_dup2_11 hx hb hd hv hu (h _ _ _ _ _ hr hS hl hc1 hc2)
  case pop =>
    obtain ⟨rfl, v, st', rfl, hv, h⟩ := h
    exact lv_pop hx hb hd hv (h _ _ _ _ _ hr hS hl hc1 hc2)
  case ifCond o off =>
    obtain ⟨rfl, x, st', tgt, rfl, ht, k1, k2⟩ := h
    cases o
    case eq => exact lv_if_eq hx hb hd ht (fun q => k1 q _ _ _ _ _ hr hS hl hc1 hc2) (fun q => k2 q _ _ _ _ _ hr hS hl hc1 hc2)
    case ne => exact lv_if_ne hx hb hd ht (fun q => k1 q _ _ _ _ _ hr hS hl hc1 hc2) (fun q => k2 (fun z => z q) _ _ _ _ _ hr hS hl hc1 hc2)
    case lt => exact lv_if_lt hx hb hd ht (fun q => k1 q _ _ _ _ _ hr hS hl hc1 hc2) (fun q => k2 q _ _ _ _ _ hr hS hl hc1 hc2)
    case ge => exact lv_if_ge hx hb hd ht (fun q => k1 q _ _ _ _ _ hr hS hl hc1 hc2) (fun q => k2 q _ _ _ _ _ hr hS hl hc1 hc2)
    case gt => exact lv_if_gt hx hb hd ht (fun q => k1 q _ _ _ _ _ hr hS hl hc1 hc2) (fun q => k2 q _ _ _ _ _ hr hS hl hc1 hc2)
    case le => exact lv_if_le hx hb hd ht (fun q => k1 q _ _ _ _ _ hr hS hl hc1 hc2) (fun q => k2 q _ _ _ _ _ hr hS hl hc1 hc2)
  case if_icmp o off =>
    obtain ⟨rfl, x, y, st', tgt, rfl, ht, k1, k2⟩ := h
    cases o
    case eq => exact lv_icmp_eq hx hb hd ht (fun q => k1 q _ _ _ _ _ hr hS hl hc1 hc2) (fun q => k2 q _ _ _ _ _ hr hS hl hc1 hc2)
    case ne => exact lv_icmp_ne hx hb hd ht (fun q => k1 q _ _ _ _ _ hr hS hl hc1 hc2) (fun q => k2 (fun z => z q) _ _ _ _ _ hr hS hl hc1 hc2)
    case lt => exact lv_icmp_lt hx hb hd ht (fun q => k1 q _ _ _ _ _ hr hS hl hc1 hc2) (fun q => k2 q _ _ _ _ _ hr hS hl hc1 hc2)
    case ge => exact lv_icmp_ge hx hb hd ht (fun q => k1 q _ _ _ _ _ hr hS hl hc1 hc2) (fun q => k2 q _ _ _ _ _ hr hS hl hc1 hc2)
    case gt => exact lv_icmp_gt hx hb hd ht (fun q => k1 q _ _ _ _ _ hr hS hl hc1 hc2) (fun q => k2 q _ _ _ _ _ hr hS hl hc1 hc2)
    case le => exact lv_icmp_le hx hb hd ht (fun q => k1 q _ _ _ _ _ hr hS hl hc1 hc2) (fun q => k2 q _ _ _ _ _ hr hS hl hc1 hc2)
  case goto off =>
    obtain ⟨rfl, tgt, ht, h⟩ := h
    exact lv_goto hx hb hd ht (h _ _ _ _ _ hr hS hl hc1 hc2)
  case tableswitch dflt lo hi offs =>
    obtain ⟨x, st', rfl, ⟨h1, tgt, ht, h⟩ | ⟨h1, h2, off, tgt, ho, ht, h⟩⟩ := h
    · exact lv_tableOut hx hb hd h1 ht (h _ _ _ _ _ hr hS hl hc1 hc2)
    · exact lv_tableIn hx hb hd h1 h2 ho ht (h _ _ _ _ _ hr hS hl hc1 hc2)
  case getfield k =>
    obtain ⟨rfl, a, st', ci, fs, j, v, rfl, ha, hv, hf, h⟩ := h
    exact s_get hx hb hts hN hown hK hr ha hv hf hd (h _ _ _ _ _ hr hS hl hc1 hc2)
  case putfield k =>
    obtain ⟨rfl, a, v, st', ci, fs, j, rfl, ha, hj, hf, h⟩ := h
    exact s_put hx hb hts hN hown hmn hK hr hS ha hj hf hd (fun H1 locs1 hr1 hS1 => h _ _ _ _ _ hr1 hS1 hl hc1 hc2)
  case getstatic k =>
    obtain ⟨rfl, hlk, h⟩ := h
    exact va_gets hx hb hFX.2.2.2.1 hS hown (hts _ (s_in hlk rfl)) (fun _ q => q) hd (h _ _ _ _ _ hr hS hl hc1 hc2)
  case arraylength =>
    obtain ⟨rfl, st', rfl, h⟩ := h
    exact va_slen hx hb hFX.1 (Nat.lt_of_lt_of_le hFX.2.1 hFX.2.2.2.2.2) (Nat.not_le.mpr hFX.2.1) hS hd (h _ _ _ _ _ hr hS hl hc1 hc2)
  case iaload =>
    obtain ⟨rfl, a, i, st', rfl, ⟨n, f, ha, hi, h⟩ | ⟨rfl, hi, h⟩⟩ := h
    · exact va_iald hx hb hK (s_P1 hr ha aI_j) 0 0 rfl rfl hi hd (h _ _ _ _ _ hr hS hl hc1 hc2)
    · exact va_sld hx hb hFX.1 (Nat.lt_of_lt_of_le hFX.2.1 hFX.2.2.2.2.2) (Nat.not_le.mpr hFX.2.1) hS hi hd (h _ _ _ _ _ hr hS hl hc1 hc2)
  case laload =>
    obtain ⟨rfl, a, i, st', rfl, ⟨n, f, ha, hi, h⟩ | ⟨rfl, hi, h⟩⟩ := h
    · exact va_lald hx hb hK (s_P1 hr ha aJ_j) 0 1 rfl rfl hi hd (h _ _ _ _ _ hr hS hl hc1 hc2)
    · obtain ⟨cell, t1, t2, t3, t4, t5, t6, t7⟩ := hFX.2.2.2.2.1.1
      have hlt : i.toNatClampNeg < 6 := Nat.not_le.mp fun q => hi (Or.inr q)
      exact W.lald hx hb (by rw [hS.2.1 _ (Array.getElem?_eq_some_iff.mp t1).1 t7]; exact t1) t2 t3 (fun q => hi (q.imp id (fun q => Nat.le_trans t4 q))) (t6 _ hlt) rfl rfl hd (h _ _ _ _ _ hr hS hl hc1 hc2)
  case caload =>
    obtain ⟨rfl, a, i, st', n, f, rfl, ha, hi, h⟩ := h
    exact va_cald hx hb hK (s_P1 hr ha aC_j) 0 2 rfl rfl hi hd (h _ _ _ _ _ hr hS hl hc1 hc2)
  case baload =>
    obtain ⟨rfl, a, i, st', n, f, rfl, ha, hi, h⟩ := h
    exact va_zald hx hb hK (s_P1 hr ha aZ_j) 0 3 rfl rfl hi hd (h _ _ _ _ _ hr hS hl hc1 hc2)
  case aaload =>
    obtain ⟨rfl, a, i, st', t, n, f, rfl, ha, rfl | rfl, hi, h⟩ := h
    · exact va_aldq hx hb hK (s_P1 hr ha aQ_j) 0 4 rfl rfl hi hd (h _ _ _ _ _ hr hS hl hc1 hc2)
    · exact va_aldq hx hb hK (s_P1 hr ha aQ_j) 0 5 rfl rfl hi hd (h _ _ _ _ _ hr hS hl hc1 hc2)
  case iastore =>
    obtain ⟨rfl, a, i, x, st', n, f, rfl, ha, hi, h⟩ := h
    exact s_iast hx hb hK hr hS ha hi hd (fun H1 locs1 hr1 hS1 => h _ _ _ _ _ hr1 hS1 hl hc1 hc2)
  case lastore =>
    obtain ⟨rfl, a, i, x, st', n, f, rfl, ha, hi, h⟩ := h
    exact s_last hx hb hK hr hS ha hi hd (fun H1 locs1 hr1 hS1 => h _ _ _ _ _ hr1 hS1 hl hc1 hc2)
  case castore =>
    obtain ⟨rfl, a, i, x, st', n, f, rfl, ha, hi, h⟩ := h
    exact s_cast hx hb hK hr hS ha hi hd (fun H1 locs1 hr1 hS1 => h _ _ _ _ _ hr1 hS1 hl hc1 hc2)
  case bastore =>
    obtain ⟨rfl, a, i, x, st', n, f, rfl, ha, hi, h⟩ := h
    exact s_zast hx hb hK hr hS ha hi hd (fun H1 locs1 hr1 hS1 => h _ _ _ _ _ hr1 hS1 hl hc1 hc2)
  case aastore =>
    obtain ⟨rfl, a, v, i, st', t, n, f, ci, fs, rfl, ha, hv, ⟨rfl, rfl⟩ | ⟨rfl, rfl⟩, hi, h⟩ := h
    · exact s_aast hx hb hK hr hS ha hv (T := TX2) (N := 3) rfl rfl hi hd (fun H1 locs1 hr1 hS1 => h _ _ _ _ _ hr1 hS1 hl hc1 hc2)
    · exact s_aast hx hb hK hr hS ha hv (T := TX7) (N := 1) rfl rfl hi hd (fun H1 locs1 hr1 hS1 => h _ _ _ _ _ hr1 hS1 hl hc1 hc2)
  case new k =>
    obtain ⟨rfl, ci, C, T, N, fs, ty, g1, g2, g3, g4, g5, g6, g7, g8, h⟩ := h
    exact s_new1 hx hb hts hown hK hr hS g1 g2 g3 g4 g5 g6 (by omega) (by omega) hd (fun H1 hr1 hS1 => h _ _ _ _ _ hr1 hS1 hl (by dsimp only; omega) (by dsimp only; omega))
  case newarray t =>
    obtain ⟨rfl, n, st', e0, rfl, hn, he, g7, g8, h⟩ := h
    rcases he with ⟨rfl, rfl⟩ | ⟨rfl, rfl⟩ | ⟨rfl, rfl⟩ | ⟨rfl, rfl⟩
    · exact s_newa1 hx hb hK hr hS (atype := .int) (hts (.arrayClass .int) (by decide +kernel)) (t := 0) rfl (fun C z => by cases z) rfl rfl hn (by decide) (by omega) (by omega) hd (fun H1 hr1 hS1 => h _ _ _ _ _ hr1 hS1 hl (by dsimp only; omega) (by dsimp only; omega))
    · exact s_newa1 hx hb hK hr hS (atype := .long) (hts (.arrayClass .long) (by decide +kernel)) (t := 1) rfl (fun C z => by cases z) rfl rfl hn (by decide) (by omega) (by omega) hd (fun H1 hr1 hS1 => h _ _ _ _ _ hr1 hS1 hl (by dsimp only; omega) (by dsimp only; omega))
    · exact s_newa1 hx hb hK hr hS (atype := .char) (hts (.arrayClass .char) (by decide +kernel)) (t := 2) rfl (fun C z => by cases z) rfl rfl hn (by decide) (by omega) (by omega) hd (fun H1 hr1 hS1 => h _ _ _ _ _ hr1 hS1 hl (by dsimp only; omega) (by dsimp only; omega))
    · exact s_newa1 hx hb hK hr hS (atype := .boolean) (hts (.arrayClass .boolean) (by decide +kernel)) (t := 3) rfl (fun C z => by cases z) rfl rfl hn (by decide) (by omega) (by omega) hd (fun H1 hr1 hS1 => h _ _ _ _ _ hr1 hS1 hl (by dsimp only; omega) (by dsimp only; omega))
  case anewarray k =>
    obtain ⟨rfl, n, st', t, C, rfl, hn, ht, g3, g7, g8, h⟩ := h
    rcases ht with ⟨rfl, rfl⟩ | ⟨rfl, rfl⟩
    · exact s_newq1 hx hb hts hown g3 hFX.2.2.2.2.1.2.1 hK hr hS rfl hn (by omega) (by omega) hd (fun H1 hr1 hS1 => h _ _ _ _ _ hr1 hS1 hl (by dsimp only; omega) (by dsimp only; omega))
    · exact s_newq1 hx hb hts hown g3 hFX.2.2.2.2.1.2.2 hK hr hS rfl hn (by omega) (by omega) hd (fun H1 hr1 hS1 => h _ _ _ _ _ hr1 hS1 hl (by dsimp only; omega) (by dsimp only; omega))
  case invokevirtual k =>
    obtain ⟨rfl, y, As, b, st', fs, ci, T, N, κ1, κ2, rfl, g1, g2, g3, g4, g5, g6, g7, g8, h⟩ := h
    obtain ⟨cc, maxL, ret, hcd, hmL, hrn, hM⟩ := IH _ _ _ _ _ h
    have hP := s_P1 hr g1 (ob_j g2)
    have hrec : ∃ cellB : Cell, H[b]? = some cellB ∧ cellB.vm.isStatics = false ∧ s.vm.findClass y.cls = some cellB.cls := va_recv hK hP (ci := ci) (q0 := 0) g2 rfl
    have hpv : PreV s H y.cls b (va_Pc (.ref b :: As) (s_U D G w)) As := ⟨s_blind, hrec, (hPre w H locs _ hr hS).2⟩
    have hrm : (s_rm d κ1).frames + 1 ≤ R.frames ∧ 8 + (maxL + 11) + (s_rm d κ1).locals ≤ R.locals := ⟨hRf, by show 8 + (maxL + 11) + 64 * d ≤ R.locals; omega⟩
    have hbud : cells + κ1.1 ≤ R.cells ∧ slots + κ1.2 ≤ R.slots := ⟨by have := g8.1; omega, by have := g8.2; omega⟩
    have fin : ∀ (r : Option Value) (w' : sW) (H1 : Heap) (locs1 : List Loc), s_IW p l e R s m args below meth c Q D G M (pc + 3) ls (r.toList ++ st') w' κ2 → s_rel D G w' H1 → va_S (s_A G) s.heap H1 locs1 → W p l e R s m args below meth c H1 locs1 (cells + κ1.1) (slots + κ1.2) Q (F0 m (pc + 3) arr (r.toList ++ st')) := fun r w' H1 locs1 hI hr1 hS1 => hI _ _ _ _ _ hr1 hS1 hl (by have := g8.1; omega) (by have := g8.2; omega)
    have hsz : arr.size = M.2.2.1 := hl.2.1.1
    rcases g3 with g3 | ⟨host, g3⟩
    · refine s_call (va_runV (Ts := s_gw) (own := M.1.cls) ⟨hx, hb, hml, hown, hts⟩ hM (cwV As.length hts (s_good (fun x hx => ?_)) rfl rfl rfl ⟨rfl, g6.1, g6.2.1, g6.2.2.1⟩ hrm) hpv rfl rfl hsz rfl (lv_room g7) hd hbud) hS fin
      rcases List.mem_append.mp hx with h | h
      · simp only [List.mem_cons, List.not_mem_nil, or_false] at h
        rcases h with rfl | rfl | rfl | rfl
        · exact s_in g3 rfl
        · exact s_in g4 rfl
        · exact s_in g5 rfl
        · exact s_in g6.2.2.2 rfl
      · exact s_wsIn hcd x h
    · exact s_call (va_runVN (Ts := s_gw) (own := M.1.cls) ⟨hx, hb, hml, hown, hts⟩ hM ⟨va_cnB As.length hts (s_good (s_wsIn hcd)) rfl rfl rfl (hN _ g3 rfl) (hts _ (s_in g6.2.2.2 rfl)) ⟨g6.1, g6.2.1, g6.2.2.1⟩ hrm, hts _ (s_in g4 rfl), hts _ (s_in g5 rfl)⟩ hpv rfl rfl hsz rfl (lv_room g7) hd hbud) hS fin
  case invokestatic k =>
    obtain ⟨rfl, ⟨y, As, st', κ1, κ2, rfl, g3, g4, g6, g7, g8, h⟩ | ⟨a0, a, n0, n1, f, g, sp, dp, n, st', rfl, g1, g2, g3, g4, g5, g6, g7, g8, h⟩ | ⟨x, y, st', rfl, g8, ⟨g3, h⟩ | ⟨g3, h⟩⟩⟩ := h
    · obtain ⟨cc, maxL, ret, hcd, hmL, hrn, hM⟩ := IH _ _ _ _ _ h
      have hps := hPre w H locs As hr hS
      have hrm : (s_rm d κ1).frames + 1 ≤ R.frames ∧ 8 + (maxL + 11) + (s_rm d κ1).locals ≤ R.locals := ⟨hRf, by show 8 + (maxL + 11) + 64 * d ≤ R.locals; omega⟩
      have hbud : cells + κ1.1 ≤ R.cells ∧ slots + κ1.2 ≤ R.slots := ⟨by have := g8.1; omega, by have := g8.2; omega⟩
      have fin : ∀ (r : Option Value) (w' : sW) (H1 : Heap) (locs1 : List Loc), s_IW p l e R s m args below meth c Q D G M (pc + 3) ls (r.toList ++ st') w' κ2 → s_rel D G w' H1 → va_S (s_A G) s.heap H1 locs1 → W p l e R s m args below meth c H1 locs1 (cells + κ1.1) (slots + κ1.2) Q (F0 m (pc + 3) arr (r.toList ++ st')) := fun r w' H1 locs1 hI hr1 hS1 => hI _ _ _ _ _ hr1 hS1 hl (by have := g8.1; omega) (by have := g8.2; omega)
      have hsz : arr.size = M.2.2.1 := hl.2.1.1
      rcases g3 with g3 | ⟨host, g3⟩
      · refine s_call (va_runS (Ts := s_gw) (own := M.1.cls) ⟨hx, hb, hml, hown, hts⟩ hM (va_cwS As.length hts (s_good (fun x hx => ?_)) rfl rfl rfl ⟨g6.1, g6.2.1, g6.2.2.1⟩ hrm) hps rfl rfl hsz rfl (lv_room g7) hd hbud) hS fin
        rcases List.mem_append.mp hx with h | h
        · simp only [List.mem_cons, List.not_mem_nil, or_false] at h
          rcases h with rfl | rfl | rfl
          · exact s_in g3 rfl
          · exact s_in g4 rfl
          · exact s_in g6.2.2.2 rfl
        · exact s_wsIn hcd x h
      · exact s_call (va_runSN (Ts := s_gw) (own := M.1.cls) ⟨hx, hb, hml, hown, hts⟩ hM ⟨va_cnB As.length hts (s_good (s_wsIn hcd)) rfl rfl rfl (hN _ g3 rfl) (hts _ (s_in g6.2.2.2 rfl)) ⟨g6.1, g6.2.1, g6.2.2.1⟩ hrm, hts _ (s_in g4 rfl), trivial⟩ hps rfl rfl hsz rfl (lv_room g7) hd hbud) hS fin
    · refine s_copy hx hb (by rw [hml]; exact hl.2.1.1.symm) hts hown g3 hK hr hS g1 g2 g4 g5 g6 g7 (by omega) ?_ hd (fun H1 locs1 hr1 hS1 => h _ _ _ _ _ hr1 hS1 hl hc1 hc2)
      have : nativeFrameWords "java/lang/System" "arraycopy" 5 ≤ 40 := by decide +kernel
      have h8 : (st'.map fun v => v.category).sum ≤ 8 := g8
      omega
    · have h8 : (st'.map fun v => v.category).sum ≤ 8 := g8
      exact va_mmax hx hb (by rw [hml]; exact hl.2.1.1.symm) hown (hts _ (s_in g3 rfl)) (hts (.static Lib.Math.max.name) (by decide +kernel)) (hts (.initialized "java/lang/Math") (by decide +kernel)) (hts (.code Lib.Math.max.name Lib.Math.max.code 2 (some .int)) (by decide +kernel)) (by omega) (by omega) (by omega) (by omega) hd (h _ _ _ _ _ hr hS hl hc1 hc2)
    · have h8 : (st'.map fun v => v.category).sum ≤ 8 := g8
      exact va_mmin hx hb (by rw [hml]; exact hl.2.1.1.symm) hown (hts _ (s_in g3 rfl)) (hts (.static Lib.Math.min.name) (by decide +kernel)) (hts (.initialized "java/lang/Math") (by decide +kernel)) (hts (.code Lib.Math.min.name Lib.Math.min.code 2 (some .int)) (by decide +kernel)) (by omega) (by omega) (by omega) (by omega) hd (h _ _ _ _ _ hr hS hl hc1 hc2)
  case invokespecial k =>
    obtain ⟨rfl, ⟨a, st', rfl, g7, g3, h⟩ | ⟨y, As, b, st', κ1, κ2, rfl, g0, g3, g4, g6, g7, g8, h⟩⟩ := h
    · refine W.eq (g2 := F0 m pc arr (.ref a :: st')) rfl (W.objInit hx hb hown (hts _ (s_in g3 rfl)) (hts (.instanceMethod objectInit) (by decide +kernel)) (hts (.code objectInit ⟨#[0xb1]⟩ 1 none) (by decide +kernel)) rfl (by rw [hml]; exact hl.2.1.1) rfl hd (by omega) ?_ (h _ _ _ _ _ hr hS hl hc1 hc2))
      have h8 : (st'.map fun v => v.category).sum ≤ 8 := g7
      have h9 : 2 * (F0 m pc arr (.ref a :: st')).monitorRoom + (st'.map fun v => v.category).sum ≤ 8 := lv_room g7
      omega
    · obtain ⟨cc, maxL, ret, hcd, hmL, hrn, hM⟩ := IH _ _ _ _ _ h
      have hps := hPre w H locs (.ref b :: As) hr hS
      have hrm : (s_rm d κ1).frames + 1 ≤ R.frames ∧ 8 + (maxL + 11) + (s_rm d κ1).locals ≤ R.locals := ⟨hRf, by show 8 + (maxL + 11) + 64 * d ≤ R.locals; omega⟩
      have hbud : cells + κ1.1 ≤ R.cells ∧ slots + κ1.2 ≤ R.slots := ⟨by have := g8.1; omega, by have := g8.2; omega⟩
      have fin : ∀ (r : Option Value) (w' : sW) (H1 : Heap) (locs1 : List Loc), (s_IW p l e R s m args below meth c Q D G M (pc + 3) ls st' w' κ2 ∧ r = none) → s_rel D G w' H1 → va_S (s_A G) s.heap H1 locs1 → W p l e R s m args below meth c H1 locs1 (cells + κ1.1) (slots + κ1.2) Q (F0 m (pc + 3) arr (r.toList ++ st')) := fun r w' H1 locs1 hI hr1 hS1 => by
        obtain ⟨hI, rfl⟩ := hI
        exact hI _ _ _ _ _ hr1 hS1 hl (by have := g8.1; omega) (by have := g8.2; omega)
      have hsz : arr.size = M.2.2.1 := hl.2.1.1
      have hret : ret = none := hrn g0
      subst hret
      rcases g3 with g3 | ⟨host, g3⟩
      · exact s_call (va_runI (Ts := s_gw) (own := M.1.cls) ⟨hx, hb, hml, hown, hts⟩ hM (cwI As.length hts (s_good (s_wsIn hcd)) rfl rfl rfl (hts _ (s_in g6.2.2.2 rfl)) (hts _ (s_in g3 rfl)) (hts _ (s_in g4 rfl)) g0 ⟨g6.1, g6.2.1, g6.2.2.1⟩ hrm) hps rfl rfl hsz rfl (lv_room g7) hd hbud) hS fin
      · exact s_call (va_runIN (Ts := s_gw) (own := M.1.cls) ⟨hx, hb, hml, hown, hts⟩ hM ⟨va_cnB As.length hts (s_good (s_wsIn hcd)) rfl rfl rfl (hN _ g3 rfl) (hts _ (s_in g6.2.2.2 rfl)) ⟨g6.1, g6.2.1, g6.2.2.1⟩ hrm, g0, hts _ (s_in g4 rfl)⟩ hps rfl rfl hsz rfl (lv_room g7) hd hbud) hS fin
  case ireturn =>
    obtain ⟨rfl, v, ty, rfl, h1, h2, h⟩ := h
    exact hri _ _ _ _ _ _ _ _ _ hd h1 h2 h hr hS (by omega) (by omega)
  case return_ =>
    obtain ⟨rfl, rfl, h1, h⟩ := h
    exact hrv _ _ _ _ _ _ _ hd h1 h hr hS (by omega) (by omega)
  all_goals exact h.elim
end SCL
