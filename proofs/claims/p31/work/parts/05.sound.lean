def s_tys (G : sG) : List (ClassId × FieldType) := [(gA G 0, .int), (gA G 1, .long), (gA G 2, .char), (gA G 3, .boolean), (gA G 4, .object "TropicRanks$Grid"), (gA G 5, .object "TropicRanks$State")]
def s_rel (D : va_G) (G : sG) (w : sW) (H : Heap) : Prop := H.size = gB G + w.2 ∧ (∀ a, gB G ≤ a → a < gB G + w.2 → va_at D vwCl (a, w.1 a) H) ∧ ∀ a, ¬ (gB G ≤ a ∧ a < gB G + w.2) → w.1 a = s_junk
def s_A (G : sG) : Nat → Prop := fun q => gB G ≤ q
def s_FX (G : sG) (U : State) (H : Heap) : Prop := va_X (gb G) (gL G) (gx G) U H ∧ gb G < gB G ∧ gW G < gB G ∧ va_Z "TropicRanks$Covers" "WITHOUT" "[J" (.ref (gW G)) (s_A G) U H ∧ (va_T .long (gW G) 6 (fun j => .long (wW j)) (s_A G) U H ∧ va_AO "TropicRanks$Grid" U ∧ va_AO "TropicRanks$State" U) ∧ gB G ≤ H.size
def s_nest : Jvm.Cond → Bool
  | .fieldLinkNest .. => true
  | .methodLinkNest .. => true
  | _ => false
def s_N (U : State) : Prop := ∀ x ∈ lw_tbl, s_nest x = true → va_Nw x U
def s_gw : List Jvm.Cond := lw_tbl.filter goodWord
def s_ws (y : MethodName) (cc : ByteArray) (maxL : Nat) (ret : Option FieldType) : List Jvm.Cond := .code y cc maxL ret :: s_gw
def s_rm (d : Nat) (κ : Nat × Nat) : Room := { frames := d, cells := κ.1, slots := κ.2, locals := 64 * d }
def s_U (D : va_G) (G : sG) (w : sW) (U : State) : Prop := s_rel D G w U.heap ∧ va_K D vwCl (s_tys G) U ∧ s_N U ∧ s_FX G U U.heap
def s_Qc (D : va_G) (G : sG) (P : sQ) : Array Value → State → Outcome → State → Prop := fun _ st oc t => (∃ r w', oc = .returned r ∧ P r w' ∧ s_rel D G w' t.heap) ∧ st.heap.size ≤ t.heap.size ∧ ∀ q, q < gB G → t.heap[q]? = st.heap[q]?
theorem s_N.warm {s U : State} (hW : s.WarmedH U.vm) (h : s_N s) : s_N U := by
  intro x hx hn
  have h1 := h x hx hn
  cases x <;> first | exact va_Nw.warmF hW h1 | exact va_Nw.warmM hW h1 | (simp [s_nest] at hn)
theorem s_rel.at {D : va_G} {G : sG} {w : sW} {H : Heap} {a : Nat} (h : s_rel D G w H) (hj : w.1 a ≠ s_junk) : gB G ≤ a ∧ a < gB G + w.2 ∧ va_at D vwCl (a, w.1 a) H := by
  have hd : gB G ≤ a ∧ a < gB G + w.2 := Classical.byContradiction fun q => hj (h.2.2 a q)
  exact ⟨hd.1, hd.2, h.2.1 a hd.1 hd.2⟩
theorem s_rel.set {D : va_G} {G : sG} {w : sW} {H H1 : Heap} {a : Nat} {e : va_E} (h : s_rel D G w H) (hd : gB G ≤ a ∧ a < gB G + w.2) (hz : H1.size = H.size) (oq : ∀ q : Nat, q ≠ a → H1[q]? = H[q]?) (he : va_at D vwCl (a, e) H1) : s_rel D G (s_up w a e) H1 := by
  refine ⟨hz.trans h.1, fun q h1 h2 => ?_, fun q hq => ?_⟩
  · by_cases hqa : q = a
    · subst hqa
      simp only [s_up, if_true]
      exact he
    · simp only [s_up, if_neg hqa]
      exact (h.2.1 q h1 h2).kept (oq q hqa)
  · have hqa : q ≠ a := fun z => hq (by rw [z]; exact hd)
    simp only [s_up, if_neg hqa]
    exact h.2.2 q hq
theorem s_rel.push {D : va_G} {G : sG} {w : sW} {H H1 : Heap} {a : Nat} {e : va_E} (h : s_rel D G w H) (ha : a = gB G + w.2) (hz : H1.size = H.size + 1) (oq : ∀ q : Nat, q < H.size → H1[q]? = H[q]?) (he : va_at D vwCl (a, e) H1) : s_rel D G (s_new w a e) H1 := by
  refine ⟨?_, fun q h1 h2 => ?_, fun q hq => ?_⟩
  · have := h.1
    simp only [s_new]; omega
  · by_cases hqa : q = a
    · subst hqa
      simp only [s_new, if_true]
      exact he
    · simp only [s_new, if_neg hqa] at h2 ⊢
      have h3 : q < gB G + w.2 := by omega
      exact (h.2.1 q h1 h3).kept (oq q (by rw [h.1]; exact h3))
  · have hqa : q ≠ a := fun z => hq (by rw [z, ha]; simp only [s_new]; omega)
    simp only [s_new, if_neg hqa]
    exact h.2.2 q (fun z => hq (by simp only [s_new]; omega))
theorem aI_j {G : sG} {n f} : aI G n f ≠ s_junk := fun h => by cases h
theorem aJ_j {G : sG} {n f} : aJ G n f ≠ s_junk := fun h => by cases h
theorem aC_j {G : sG} {n f} : aC G n f ≠ s_junk := fun h => by cases h
theorem aZ_j {G : sG} {n f} : aZ G n f ≠ s_junk := fun h => by cases h
theorem aQ_j {G : sG} {t n f} : aQ G t n f ≠ s_junk := fun h => by cases h
theorem ob_j {ci : Nat} {fs : List Value} {q : vw_C} (h : vwCl[ci]? = some q) : ob ci fs ≠ s_junk := fun z => by
  have : ci = 999 := by cases z; rfl
  rw [this] at h
  cases h
theorem va_S.putA {G : sG} {H0 H H1 : Heap} {locs : List Loc} {a k : Nat} (h : va_S (s_A G) H0 H locs) (z : H1.size = H.size) (oq : ∀ q : Nat, q ≠ a → H1[q]? = H[q]?) (ha : gB G ≤ a) : va_S (s_A G) H0 H1 (locs ++ [⟨a, k⟩]) := h.put z oq ha
theorem va_S.pushA {G : sG} {H0 H H1 : Heap} {locs : List Loc} (h : va_S (s_A G) H0 H locs) (z : H1.size = H.size + 1) (oq : ∀ q : Nat, q < H.size → H1[q]? = H[q]?) : va_S (s_A G) H0 H1 locs := ⟨Nat.le_trans h.1 (by omega), fun x h1 h2 => (oq x (Nat.lt_of_lt_of_le h1 h.1)).trans (h.2.1 x h1 h2), h.2.2⟩
section SROWS
variable {p : Program} {l : Launch} {e : Env} {R : Room} {s : State} {m : MethodId} {args : Array Value} {below : List Frame} {meth : Method} {c : Code} {H : Heap} {locs : List Loc} {cells slots : Nat} {Q : State → Prop}
variable {D : va_G} {G : sG} {w : sW} {pc : Nat} {ls : Array Slot} {rest : List Value} {cc : ByteArray}
theorem s_iast (hexec : p.tables.exec = Jvm.exec) (hb : c.code = cc) (hK : va_K D vwCl (s_tys G) s) (hr : s_rel D G w H) (hS : va_S (s_A G) s.heap H locs) {a n : Nat} {f : Nat → Int32} (ha : w.1 a = aI G n f) {i : Int32} {x : Int32} (hin : vp_in i n) (hdg : decode cc pc = .ok (.iastore, 1))
    (kk : ∀ (H1 : Heap) (locs1 : List Loc), s_rel D G (s_up w a (aI G n (upd f i.toNatClampNeg x))) H1 → va_S (s_A G) s.heap H1 locs1 → W p l e R s m args below meth c H1 locs1 cells slots Q (F0 m (pc + 1) ls rest)) : W p l e R s m args below meth c H locs cells slots Q (F0 m pc ls (.int x :: .int i :: .ref a :: rest)) := by
  obtain ⟨d1, d2, hat⟩ := hr.at (by rw [ha]; exact aI_j)
  rw [ha] at hat
  refine W.iast hexec hb hat ((hK.2 0 _ rfl).1 n (fun j => .int (f j))) (fun q => by cases q) (by show ¬ (i < 0 ∨ (arrV _ _ _).slots.size ≤ _); rw [arrV_size]; exact hin) rfl rfl hdg fun H1 e z oq => ?_
  refine kk H1 _ (hr.set ⟨d1, d2⟩ z oq ?_) (hS.putA z oq d1)
  show H1[a]? = some (vp_cell _ _)
  rw [e]
  show some ((vp_cell (gA G 0) _).setSlot _ _) = _
  rw [vp_cell_i, vp_cell_i, arrV_store]
  congr 2
  funext q
  by_cases hq : q = i.toNatClampNeg
  · subst hq
    simp [updV, upd]
    
  · simp [updV, upd, hq]
theorem s_last (hexec : p.tables.exec = Jvm.exec) (hb : c.code = cc) (hK : va_K D vwCl (s_tys G) s) (hr : s_rel D G w H) (hS : va_S (s_A G) s.heap H locs) {a n : Nat} {f : Nat → Int64} (ha : w.1 a = aJ G n f) {i : Int32} {x : Int64} (hin : vp_in i n) (hdg : decode cc pc = .ok (.lastore, 1))
    (kk : ∀ (H1 : Heap) (locs1 : List Loc), s_rel D G (s_up w a (aJ G n (vp_updL f i.toNatClampNeg x))) H1 → va_S (s_A G) s.heap H1 locs1 → W p l e R s m args below meth c H1 locs1 cells slots Q (F0 m (pc + 1) ls rest)) : W p l e R s m args below meth c H locs cells slots Q (F0 m pc ls (.long x :: .int i :: .ref a :: rest)) := by
  obtain ⟨d1, d2, hat⟩ := hr.at (by rw [ha]; exact aJ_j)
  rw [ha] at hat
  refine W.last hexec hb hat ((hK.2 1 _ rfl).1 n (fun j => .long (f j))) (fun q => by cases q) (by show ¬ (i < 0 ∨ (arrV _ _ _).slots.size ≤ _); rw [arrV_size]; exact hin) rfl rfl hdg fun H1 e z oq => ?_
  refine kk H1 _ (hr.set ⟨d1, d2⟩ z oq ?_) (hS.putA z oq d1)
  show H1[a]? = some (vp_cell _ _)
  rw [e]
  show some ((vp_cell (gA G 1) _).setSlot _ _) = _
  rw [vp_cell_l, vp_cell_l, arrV_store]
  congr 2
  funext q
  by_cases hq : q = i.toNatClampNeg
  · subst hq
    simp [updV, vp_updL]
    
  · simp [updV, vp_updL, hq]
theorem s_cast (hexec : p.tables.exec = Jvm.exec) (hb : c.code = cc) (hK : va_K D vwCl (s_tys G) s) (hr : s_rel D G w H) (hS : va_S (s_A G) s.heap H locs) {a n : Nat} {f : Nat → Int32} (ha : w.1 a = aC G n f) {i : Int32} {x : Int32} (hin : vp_in i n) (hdg : decode cc pc = .ok (.castore, 1))
    (kk : ∀ (H1 : Heap) (locs1 : List Loc), s_rel D G (s_up w a (aC G n (upd f i.toNatClampNeg (vp_nar .char x)))) H1 → va_S (s_A G) s.heap H1 locs1 → W p l e R s m args below meth c H1 locs1 cells slots Q (F0 m (pc + 1) ls rest)) : W p l e R s m args below meth c H locs cells slots Q (F0 m pc ls (.int x :: .int i :: .ref a :: rest)) := by
  obtain ⟨d1, d2, hat⟩ := hr.at (by rw [ha]; exact aC_j)
  rw [ha] at hat
  refine W.cast hexec hb hat ((hK.2 2 _ rfl).1 n (fun j => .int (f j))) (fun q => by cases q) (by show ¬ (i < 0 ∨ (arrV _ _ _).slots.size ≤ _); rw [arrV_size]; exact hin) rfl rfl hdg fun H1 e z oq => ?_
  refine kk H1 _ (hr.set ⟨d1, d2⟩ z oq ?_) (hS.putA z oq d1)
  show H1[a]? = some (vp_cell _ _)
  rw [e]
  show some ((vp_cell (gA G 2) _).setSlot _ _) = _
  rw [vp_cell_i, vp_cell_i, arrV_store]
  congr 2
  funext q
  by_cases hq : q = i.toNatClampNeg
  · subst hq
    simp [updV, upd, vp_nar]
    try rfl
  · simp [updV, upd, vp_nar, hq]
theorem s_zast (hexec : p.tables.exec = Jvm.exec) (hb : c.code = cc) (hK : va_K D vwCl (s_tys G) s) (hr : s_rel D G w H) (hS : va_S (s_A G) s.heap H locs) {a n : Nat} {f : Nat → Int32} (ha : w.1 a = aZ G n f) {i : Int32} {x : Int32} (hin : vp_in i n) (hdg : decode cc pc = .ok (.bastore, 1))
    (kk : ∀ (H1 : Heap) (locs1 : List Loc), s_rel D G (s_up w a (aZ G n (upd f i.toNatClampNeg (vp_nar .boolean x)))) H1 → va_S (s_A G) s.heap H1 locs1 → W p l e R s m args below meth c H1 locs1 cells slots Q (F0 m (pc + 1) ls rest)) : W p l e R s m args below meth c H locs cells slots Q (F0 m pc ls (.int x :: .int i :: .ref a :: rest)) := by
  obtain ⟨d1, d2, hat⟩ := hr.at (by rw [ha]; exact aZ_j)
  rw [ha] at hat
  refine W.zast hexec hb hat ((hK.2 3 _ rfl).1 n (fun j => .int (f j))) (fun q => by cases q) (by show ¬ (i < 0 ∨ (arrV _ _ _).slots.size ≤ _); rw [arrV_size]; exact hin) rfl rfl hdg fun H1 e z oq => ?_
  refine kk H1 _ (hr.set ⟨d1, d2⟩ z oq ?_) (hS.putA z oq d1)
  show H1[a]? = some (vp_cell _ _)
  rw [e]
  show some ((vp_cell (gA G 3) _).setSlot _ _) = _
  rw [vp_cell_i, vp_cell_i, arrV_store]
  congr 2
  funext q
  by_cases hq : q = i.toNatClampNeg
  · subst hq
    simp [updV, upd, vp_nar]
    try rfl
  · simp [updV, upd, vp_nar, hq]
theorem s_aast (hexec : p.tables.exec = Jvm.exec) (hb : c.code = cc) (hK : va_K D vwCl (s_tys G) s) (hr : s_rel D G w H) (hS : va_S (s_A G) s.heap H locs) {a v t n ci : Nat} {vs : List Value} {f : Nat → Option Nat} (ha : w.1 a = aQ G t n f) (hv : w.1 v = ob ci vs) {C : String} {T : u_T} {N : Nat} (ht : (s_tys G)[t]? = some (gA G t, .object C)) (hc : vwCl[ci]? = some (C, T, N)) {i : Int32} (hin : vp_in i n) (hdg : decode cc pc = .ok (.aastore, 1))
    (kk : ∀ (H1 : Heap) (locs1 : List Loc), s_rel D G (s_up w a (aQ G t n (va_up f i.toNatClampNeg (some v)))) H1 → va_S (s_A G) s.heap H1 locs1 → W p l e R s m args below meth c H1 locs1 cells slots Q (F0 m (pc + 1) ls rest)) : W p l e R s m args below meth c H locs cells slots Q (F0 m pc ls (.ref v :: .int i :: .ref a :: rest)) := by
  obtain ⟨d1, d2, hat⟩ := hr.at (by rw [ha]; exact aQ_j)
  rw [ha] at hat
  obtain ⟨-, -, hvt⟩ := hr.at (a := v) (by rw [hv]; exact ob_j hc)
  rw [hv] at hvt
  have hlt : i.toNatClampNeg < n := Nat.not_le.mp fun q => hin (Or.inr q)
  have h0 : ¬ i < 0 := fun q => hin (Or.inl q)
  obtain ⟨r', hr', cellV, g1, g2, g3, -⟩ := hvt
  have hcls := (hK.1 ci _ hc).2
  obtain ⟨kA, comp, k1, k2, k3, -⟩ := (hK.2 t _ ht).2
  have hcomp : comp = D.1 ci := Option.some.inj (k3.symm.trans hcls.1)
  subst hcomp
  obtain ⟨kC, hkC, -⟩ := hcls.2
  refine W.aast hexec hb hat (fun q h => by cases h) (fun h => by cases h) k1 k2 rfl hkC ⟨h0, by show _ < (arrV _ _ _).slots.size; rw [arrV_size]; exact hlt⟩ g1 (fun q h => by rw [g3] at h; cases h) (by rw [g2]; exact hkC) (by rw [g2]; exact va_assign hcls) rfl rfl hdg fun H1 e z oq => ?_
  refine kk H1 _ (hr.set ⟨d1, d2⟩ z oq ?_) (hS.putA z oq d1)
  show H1[a]? = some (vp_cell _ _)
  rw [e]
  show some ((vp_cell (gA G t) _).setSlot _ _) = _
  rw [vp_cell_q, vp_cell_q, arrV_store]
  congr 2
  funext q
  by_cases hq : q = i.toNatClampNeg
  · subst hq
    simp [updV, va_up, va_rf]
  · simp [updV, va_up, hq]
/-- words of a class, its fields' types and names -/
theorem s_cls {ci : Nat} {C : String} {T : u_T} {N : Nat} (h : vwCl[ci]? = some (C, T, N)) : (∀ x ∈ u_ws C T N, x ∈ s_gw) ∧ (∀ a, a < N → ∀ b, b < N → a ≠ b → (T a).2.1 ≠ (T b).2.1) ∧ ∃ ty : Nat → FieldType, ∀ k, k < N → parseFieldDescriptor (T k).2.2.1 = some (ty k) := by
  match ci, h with
  | 0, h => cases h; exact ⟨by decide +kernel, nmX1, tyX1, tyX1_ok⟩
  | 1, h => cases h; exact ⟨by decide +kernel, nmX2, tyX2, tyX2_ok⟩
  | 2, h => cases h; exact ⟨by decide +kernel, nmX3, tyX3, tyX3_ok⟩
  | 3, h => cases h; exact ⟨by decide +kernel, nmX4, tyX4, tyX4_ok⟩
  | 4, h => cases h; exact ⟨by decide +kernel, nmX5, tyX5, tyX5_ok⟩
  | 5, h => cases h; exact ⟨by decide +kernel, nmX6, tyX6, tyX6_ok⟩
  | 6, h => cases h; exact ⟨by decide +kernel, nmX7, tyX7, tyX7_ok⟩
  | 7, h => cases h; exact ⟨by decide +kernel, nmX8, tyX8, tyX8_ok⟩
  | 8, h => cases h; exact ⟨by decide +kernel, nmX9, tyX9, tyX9_ok⟩
  | k + 9, h => simp [vwCl] at h
theorem s_in {x : Jvm.Cond} (h : inT x) (hg : goodWord x = true) : x ∈ s_gw := List.mem_filter.mpr ⟨h, hg⟩
theorem s_put (hexec : p.tables.exec = Jvm.exec) (hb : c.code = cc) (hts : ∀ x ∈ s_gw, x.before args s = true) (hN : s_N s) {M : sM} (hown : s.vm.findClass M.1.cls = some m.cls) (hmn : M.1.name = "<init>" → meth.name = "<init>") (hK : va_K D vwCl (s_tys G) s) (hr : s_rel D G w H) (hS : va_S (s_A G) s.heap H locs) {k a ci j : Nat} {fs : List Value} {v : Value} (ha : w.1 a = ob ci fs) (hj : j < fs.length) (hf : s_fs M k ci j v) (hdg : decode cc pc = .ok (.putfield k, 3))
    (kk : ∀ (H1 : Heap) (locs1 : List Loc), s_rel D G (s_up w a (ob ci (fs.set j v))) H1 → va_S (s_A G) s.heap H1 locs1 → W p l e R s m args below meth c H1 locs1 cells slots Q (F0 m (pc + 3) ls rest)) : W p l e R s m args below meth c H locs cells slots Q (F0 m pc ls (v :: .ref a :: rest)) := by
  obtain ⟨C, T, N, host, ty, hc, hjN, hd, hn, hfit, hlink⟩ := hf
  obtain ⟨hin, hnm, ty0, hty⟩ := s_cls hc
  obtain ⟨d1, d2, hat⟩ := hr.at (a := a) (by rw [ha]; exact ob_j hc)
  rw [ha] at hat
  have hap := va_apart (own := M.1.cls) hts hin ty0 hty hnm hK hc
  obtain ⟨r, h1, cell, q1, q2, q3, q4⟩ := hat
  have hr2 : r = (C, T, N) := Option.some.inj (h1.symm.trans hc)
  subst hr2
  obtain ⟨hSl, hfc, kC, hkC, hkind⟩ := hK.1 ci _ hc
  obtain ⟨cf, kf, fi, f, hi, hsl⟩ := hSl j hjN
  have hlay := hts _ (hin _ (u_in_lay hjN))
  unfold u_lay at hlay
  have hst := (u_facts hfc hkC (u_lays hts hin hjN) hi).1
  have fin : ∀ H1 : Heap, H1[a]? = some (cell.setSlot f.slot v) → H1.size = H.size → (∀ q, q ≠ a → H1[q]? = H[q]?) → W p l e R s m args below meth c H1 (locs ++ [⟨a, f.slot⟩]) cells slots Q (F0 m (pc + 3) ls rest) := by
    intro H1 e1 e2 e3
    rw [hsl] at e1 ⊢
    exact kk H1 _ (hr.set ⟨d1, d2⟩ e2 e3 ⟨_, hc, t_OB.to (V := updV (vp_V fs) j v) ⟨_, e1, q2, q3, t_set q4 hap hjN v⟩ (fun i _ => vp_updV_set hj v i)⟩) (hS.putA e2 e3 d1)
  have hlt : f.slot < cell.slots.size := by rw [hsl]; exact k2_hasslot (q4 j hjN)
  rcases hlink with ⟨hfin, hlk⟩ | ⟨hfin, hini, hdecl, hlk⟩
  · rw [if_neg (by rw [hfin]; decide)] at hlay
    have h6 := u_store hfc hkC hkind hlay hi hd hn hfit
    rcases hlk with hlk | hlk
    · exact W.putK hexec hb (f := f) ⟨hown, hts _ (s_in hlk rfl), ⟨_, _, _, hi⟩, hst⟩ (by rw [q2]; exact h6) q1 q3 hlt rfl rfl hdg fin
    · exact va_WputK hexec hb (f := f) hown (va_Nw.use rfl (hN _ hlk rfl)) hi hst (by rw [q2]; exact h6) q1 q3 hlt rfl rfl hdg fin
  · rw [if_pos hfin] at hlay
    have hcf : m.cls = cf := by
      obtain ⟨_, _, c', _, _, _, -, -, hf', -, -, -, hown2, -⟩ := Cond.laysFinal_spec hlay
      have e1 : c' = cf := by have := hi.symm.trans hf'; simp at this; exact this.1.symm
      rw [hdecl] at hown2
      rw [← e1]; exact Option.some.inj (hown.symm.trans hown2)
    have h6 := u_fits hfc hkC hkind (Or.inr hlay) hi hd hn hfit
    exact W.putFinK hexec hb hown (hts _ (s_in hlk rfl)) hi hst hcf (hmn hini) (by rw [q2]; exact h6) q1 q3 hlt rfl rfl hdg fin
theorem s_get (hexec : p.tables.exec = Jvm.exec) (hb : c.code = cc) (hts : ∀ x ∈ s_gw, x.before args s = true) (hN : s_N s) {own : String} (hown : s.vm.findClass own = some m.cls) (hK : va_K D vwCl (s_tys G) s) (hr : s_rel D G w H) {k a ci j : Nat} {fs : List Value} {v : Value} (ha : w.1 a = ob ci fs) (hv : fs[j]? = some v) (hf : s_fl own k ci j) (hdg : decode cc pc = .ok (.getfield k, 3))
    (kk : W p l e R s m args below meth c H locs cells slots Q (F0 m (pc + 3) ls (v :: rest))) : W p l e R s m args below meth c H locs cells slots Q (F0 m pc ls (.ref a :: rest)) := by
  obtain ⟨C, T, N, host, hc, hjN, hlk⟩ := hf
  obtain ⟨hin, -, -⟩ := s_cls hc
  obtain ⟨d1, d2, hat⟩ := hr.at (a := a) (by rw [ha]; exact ob_j hc)
  rw [ha] at hat
  have hP : va_P D vwCl [(a, ob ci fs)] H := fun k q hq => by
    have hz : k < 1 := (List.getElem?_eq_some_iff.mp hq).1
    rw [show k = 0 by omega] at hq
    cases hq
    exact hat
  rcases hlk with hlk | hlk
  · exact va_get hexec hb hts hin hown hK hP 0 rfl hc j hjN (hts _ (s_in hlk rfl)) (fun _ h => h) hv hdg kk
  · exact va_getN hexec hb hts hin hown hK hP 0 rfl hc j hjN (va_Nw.use rfl (hN _ hlk rfl)) (fun _ h => h) hv hdg kk
theorem s_P1 (hr : s_rel D G w H) {a : Nat} {x : va_E} (ha : w.1 a = x) (hj : x ≠ s_junk) : va_P D vwCl [(a, x)] H := fun k q hq => by
  have hz : k < 1 := (List.getElem?_eq_some_iff.mp hq).1
  rw [show k = 0 by omega] at hq
  cases hq
  rw [← ha]
  exact (hr.at (by rw [ha]; exact hj)).2.2
theorem s_new1 (hexec : p.tables.exec = Jvm.exec) (hb : c.code = cc) (hts : ∀ x ∈ s_gw, x.before args s = true) {own : String} (hown : s.vm.findClass own = some m.cls) (hK : va_K D vwCl (s_tys G) s) (hr : s_rel D G w H) (hS : va_S (s_A G) s.heap H locs) {k ci : Nat} {C : String} {T : u_T} {N : Nat} {fs : List Value} {ty : Nat → FieldType} (hc : vwCl[ci]? = some (C, T, N)) (h2 : inT (.classLink own k C)) (h3 : inT (.instantiable C N)) (h4 : inT (.initialized C)) (hty : ∀ j, j < N → parseFieldDescriptor (T j).2.2.1 = some (ty j)) (hfs : ∀ j, j < N → defaultValue (ty j) = vp_V fs j) (hcells : cells + 1 ≤ R.cells) (hslots : slots + N ≤ R.slots) (hdg : decode cc pc = .ok (.new k, 3))
    (kk : ∀ (H1 : Heap), s_rel D G (s_new w (gB G + w.2) (ob ci fs)) H1 → va_S (s_A G) s.heap H1 locs → W p l e R s m args below meth c H1 locs (cells + 1) (slots + N) Q (F0 m (pc + 3) ls (.ref (gB G + w.2) :: rest))) : W p l e R s m args below meth c H locs cells slots Q (F0 m pc ls rest) := by
  have hKn := hK.1 ci _ hc
  obtain ⟨hin, -, -⟩ := s_cls hc
  refine W.newcK hexec hb hown (hts _ (s_in h2 rfl)) (hts _ (s_in h3 rfl)) (hts _ (s_in h4 rfl)) rfl hdg hcells hslots hKn.2.1 hr.1 fun H1 kC hkC e1 z1 o1 => ?_
  rw [← hr.1] at z1 o1
  exact kk H1 (hr.push rfl z1 o1 ⟨_, hc, (u_born ty hts hin hKn hkC e1 hty).to hfs⟩) (hS.pushA z1 o1)
theorem s_newa1 (hexec : p.tables.exec = Jvm.exec) (hb : c.code = cc) (hK : va_K D vwCl (s_tys G) s) (hr : s_rel D G w H) (hS : va_S (s_A G) s.heap H locs) {atype : ArrayType} (harr : (Cond.arrayClass (newarray.typeOf atype)).before args s = true) {t n : Nat} {e0 : va_E} {x : vp_A} (ht : (s_tys G)[t]? = some (gA G t, newarray.typeOf atype)) (hprim : ∀ C, newarray.typeOf atype ≠ .object C) (he : e0 = .inl (gA G t, x)) (hx : vp_cell (gA G t) x = arrV (gA G t) n (fun _ => defaultValue (newarray.typeOf atype))) (hn : n < 10000) (hcb : componentBytes (newarray.typeOf atype) ≤ 8) (hcells : cells + 1 ≤ R.cells) (hslots : slots + n ≤ R.slots) (hdg : decode cc pc = .ok (.newarray atype, 2))
    (kk : ∀ (H1 : Heap), s_rel D G (s_new w (gB G + w.2) e0) H1 → va_S (s_A G) s.heap H1 locs → W p l e R s m args below meth c H1 locs (cells + 1) (slots + n) Q (F0 m (pc + 2) ls (.ref (gB G + w.2) :: rest))) : W p l e R s m args below meth c H locs cells slots Q (F0 m pc ls (.int (nI n) :: rest)) := by
  subst he
  have hb2 : n * componentBytes (newarray.typeOf atype) ≤ 536870912 := by
    have := Nat.mul_le_mul (Nat.le_of_lt hn) hcb
    omega
  refine va_newaK hexec hb harr rfl hdg rfl (nI_pos (by omega)) (nI_clamp (by omega)) hb2 hcells hslots hr.1 fun H1 cA e1 z1 o1 hAr hNm => ?_
  rw [← hr.1] at z1 o1
  have hcA : cA = gA G t := by
    have h := (hK.2 t _ ht).2
    have h9 : s.vm.findClass ("[" ++ (newarray.typeOf atype).toString) = some (gA G t) := by
      revert h hprim
      generalize newarray.typeOf atype = ty
      intro hp h
      cases ty <;> first | exact h | exact absurd rfl (hp _)
    exact Option.some.inj (hNm.symm.trans h9)
  subst hcA
  exact kk H1 (hr.push rfl z1 o1 (show H1[gB G + w.2]? = some (vp_cell _ _) by rw [hx]; exact e1)) (hS.pushA z1 o1)
theorem s_newq1 (hexec : p.tables.exec = Jvm.exec) (hb : c.code = cc) (hts : ∀ x ∈ s_gw, x.before args s = true) {own C : String} {index : Nat} (hown : s.vm.findClass own = some m.cls) (hclink : inT (.classLink own index C)) (hover : va_AO C s) (hK : va_K D vwCl (s_tys G) s) (hr : s_rel D G w H) (hS : va_S (s_A G) s.heap H locs) {t n : Nat} (ht : (s_tys G)[t]? = some (gA G t, .object C)) (hn : n < 10000) (hcells : cells + 1 ≤ R.cells) (hslots : slots + n ≤ R.slots) (hdg : decode cc pc = .ok (.anewarray index, 3))
    (kk : ∀ (H1 : Heap), s_rel D G (s_new w (gB G + w.2) (aQ G t n (fun _ => none))) H1 → va_S (s_A G) s.heap H1 locs → W p l e R s m args below meth c H1 locs (cells + 1) (slots + n) Q (F0 m (pc + 3) ls (.ref (gB G + w.2) :: rest))) : W p l e R s m args below meth c H locs cells slots Q (F0 m pc ls (.int (nI n) :: rest)) := by
  have hcl : (nI n).toNatClampNeg = n := nI_clamp (by omega)
  refine W.anew hexec hb hown (hts _ (s_in hclink rfl)) (va_AO.use hover) rfl hdg rfl (nI_pos (by omega)) (by rw [hcl]; omega) hcells (by rw [hcl]; exact hslots) fun cA kA comp f1 f2 f3 f4 => ?_
  rw [hcl]
  have hcA : cA = gA G t := by
    obtain ⟨kA', comp', g1, g2, g3, g4⟩ := (hK.2 t _ ht).2
    exact Option.some.inj (f1.symm.trans g4)
  subst hcA
  generalize hH1 : H.push ({ cls := gA G t, slots := Array.replicate n .null, vm := .none } : Cell) = H1
  have z1 : H1.size = H.size + 1 := by rw [← hH1, Array.size_push]
  have e1 : H1[H.size]? = some (arrV (gA G t) n (fun _ => .null)) := by rw [← hH1, Array.getElem?_push_size, ← arrV_new]
  have o1 : ∀ q : Nat, q < H.size → H1[q]? = H[q]? := fun q hq => by rw [← hH1, Array.getElem?_push, if_neg (Nat.ne_of_lt hq)]
  rw [hr.1] at e1 ⊢
  exact kk H1 (hr.push rfl z1 o1 (show H1[gB G + w.2]? = some (vp_cell _ _) by rw [vp_cell_q]; exact e1)) (hS.pushA z1 o1)
theorem s_copy (hexec : p.tables.exec = Jvm.exec) (hb : c.code = cc) (hml : c.maxLocals = ls.size) (hts : ∀ x ∈ s_gw, x.before args s = true) {own : String} {index : Nat} (hown : s.vm.findClass own = some m.cls) (hlink : inT (.methodLink own index arraycopyName))
    (hK : va_K D vwCl (s_tys G) s) (hr : s_rel D G w H) (hS : va_S (s_A G) s.heap H locs) {a0 a n0 n1 sp dp n : Nat} {f g : Nat → Int32} (ha0 : w.1 a0 = aI G n0 f) (ha1 : w.1 a = aI G n1 g) (h4 : sp + n ≤ n0) (h5 : dp + n ≤ n1) (h6 : n0 < 1000) (h7 : n1 < 1000)
    (hframes : 1 ≤ R.frames) (hlocals : (rest.map fun v => v.category).sum + (nativeFrameWords "java/lang/System" "arraycopy" 5 + 11) ≤ R.locals) (hdg : decode cc pc = .ok (.invokestatic index, 3))
    (kk : ∀ (H1 : Heap) (locs1 : List Loc), s_rel D G (s_up w a (aI G n1 (va_cpy f g sp dp n))) H1 → va_S (s_A G) s.heap H1 locs1 → W p l e R s m args below meth c H1 locs1 cells slots Q (F0 m (pc + 3) ls rest)) : W p l e R s m args below meth c H locs cells slots Q (F0 m pc ls (.int (nI n) :: .int (nI dp) :: .ref a :: .int (nI sp) :: .ref a0 :: rest)) := by
  obtain ⟨-, -, hc0⟩ := hr.at (a := a0) (by rw [ha0]; exact aI_j)
  obtain ⟨d1, d2, hc1⟩ := hr.at (a := a) (by rw [ha1]; exact aI_j)
  rw [ha0] at hc0
  rw [ha1] at hc1
  have hc0 : H[a0]? = some (vp_cell (gA G 0) (n0, .inl f)) := hc0
  have hc1 : H[a]? = some (vp_cell (gA G 0) (n1, .inl g)) := hc1
  have k1 : (nI n).toNatClampNeg = n := nI_clamp (by omega)
  have k2 : (nI dp).toNatClampNeg = dp := nI_clamp (by omega)
  have k3 : (nI sp).toNatClampNeg = sp := nI_clamp (by omega)
  have j1 : (nI n).toInt = (n : Int) := nI_toInt (by omega)
  have j2 : (nI dp).toInt = (dp : Int) := nI_toInt (by omega)
  have j3 : (nI sp).toInt = (sp : Int) := nI_toInt (by omega)
  intro T hT X
  obtain ⟨-, kk0, hk0, cm0, hkk0⟩ := (hK.2 0 _ rfl).1 n0 (fun j => .int (f j))
  obtain ⟨-, kk1, hk1, cm1, hkk1⟩ := (hK.2 0 _ rfl).1 n1 (fun j => .int (g j))
  obtain ⟨vm', X', step⟩ := X.arraycopy hexec hown (hts _ (s_in hlink rfl)) (hts (.native arraycopyName) (by decide +kernel)) (hts (.static arraycopyName) (by decide +kernel)) (hts (.initialized "java/lang/System") (by decide +kernel)) (src := a0) (dst := a) (cs := vp_cell (gA G 0) (n0, .inl f)) (cd := vp_cell (gA G 0) (n1, .inl g)) (srcPos := nI sp) (destPos := nI dp) (n := nI n) (by rw [hT]; exact hc0) (by rw [hT]; exact hc1)
    (fun _ h => by cases h) (fun _ h => by cases h) (fun h => by cases h) (fun h => by cases h) hk0 hk1 hkk0 hkk1 (by simp [refKind]) (nI_pos (by omega)) (nI_pos (by omega)) (nI_pos (by omega))
    (by rw [j3, j1]; show ¬ _ > ((arrV (gA G 0) n0 (fun j => .int (f j))).slots.size : Int); rw [arrV_size]; omega)
    (by rw [j2, j1]; show ¬ _ > ((arrV (gA G 0) n1 (fun j => .int (g j))).slots.size : Int); rw [arrV_size]; omega)
    (fun vm₁ _ i hi => by
      rw [k1] at hi
      have e : (vp_cell (gA G 0) (n0, .inl f)).slots.getD ((nI sp).toNatClampNeg + i) .null = .int (f (sp + i)) := by
        show (arrV (gA G 0) n0 (fun j => .int (f j))).slots.getD _ _ = _
        rw [k3, Array.getD_eq_getD_getElem?, arrV_read _ _ (by omega)]
        rfl
      refine ⟨?_, ?_⟩
      · rw [e]
        rfl
      · rw [e]
        exact trivial)
    (g := F0 m pc ls (.int (nI n) :: .int (nI dp) :: .ref a :: .int (nI sp) :: .ref a0 :: rest)) rfl (by rw [hml]) (rest := rest) rfl (by rw [hb]; exact hdg) hframes (by show 2 * 0 + _ + _ ≤ _; omega)
  have e1 : copied (vp_cell (gA G 0) (n0, .inl f)) (vp_cell (gA G 0) (n1, .inl g)) (nI sp) (nI dp) (nI n) = vp_cell (gA G 0) (n1, .inl (va_cpy f g sp dp n)) := by
    rw [show va_cpy f g sp dp n = va_cpy f g (nI sp).toNatClampNeg (nI dp).toNatClampNeg (nI n).toNatClampNeg by rw [k1, k2, k3]]
    exact va_copied (fun z => .int z) (gA G 0) (gA G 0) f g (by rw [k1, k3]; omega)
  rw [e1] at X' step
  have hl : a < H.size := (Array.getElem?_eq_some_iff.mp hc1).1
  have oq : ∀ q : Nat, q ≠ a → (H.setIfInBounds a (vp_cell (gA G 0) (n1, .inl (va_cpy f g sp dp n))))[q]? = H[q]? := fun q hq => by simp [Array.getElem?_setIfInBounds, Ne.symm hq]
  have hheap : ((T.setVm vm').setCell a (vp_cell (gA G 0) (n1, .inl (va_cpy f g sp dp n)))).heap = H.setIfInBounds a (vp_cell (gA G 0) (n1, .inl (va_cpy f g sp dp n))) := by rw [← hT]; rfl
  have hz : (H.setIfInBounds a (vp_cell (gA G 0) (n1, .inl (va_cpy f g sp dp n)))).size = H.size := by simp
  obtain ⟨t, a1, b1⟩ := kk _ _ (hr.set ⟨d1, d2⟩ hz oq (show (H.setIfInBounds a _)[a]? = some _ by simp [Array.getElem?_setIfInBounds, hl])) ⟨by rw [hz]; exact hS.1, fun q g1 g2 => by
      rw [oq q (fun e => g2 (by rw [e]; exact d1))]
      exact hS.2.1 q g1 g2, fun q hq => by
      rcases List.mem_append.mp hq with h | h
      · exact hS.2.2 q h
      · obtain ⟨z, -, hz2⟩ := List.mem_map.mp h
        rw [← hz2]
        exact d1⟩ _ hheap X'
  exact ⟨t, step t a1, b1⟩
end SROWS
