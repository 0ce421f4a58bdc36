/-! THE CLAIM OUT OF ONE WALK OF THE LAW'S BODY. Your part is whole_start (and what it stands on); all else here is the same for every law, but numbers. -/
def R_law : String := "TropicRanksLaw"
def lw_P (b : Addr) (xs : List Int32) (args : Array Value) (s : State) : Prop := args = #[.ref b] ∧ s.IntsAt b xs ∧ xs.length ≤ 260 ∧ (Jvm.Cond.and given_1 narrow_1).before args s = true
def lw_Q (_ : Array Value) (s : State) (o : Outcome) (t : State) : Prop := o = .returned (some (.int 1)) ∧ Framed s o t [] 600000 7302250
def lw_Z (below : List Frame) (a : Array Value) (s : State) : State → Prop := fun t => ∃ o, t.status = .running ∧ Ended t below o ∧ lw_Q a s o t
/-- the law's own end, with 1 on the stack, nothing written that was there before, its room as the claim has it -/
theorem lw_ret {p : Program} {l : Launch} {e : Env} {s : State} {m : MethodId} {below : List Frame} {meth : Method} {c : Code} {b : Nat} (hx : p.tables.exec = Jvm.exec) (hb : c.code = code) (hr : meth.sig.returnType = ret) (hlocks : meth.locks = false) {pc : Nat} {H : Heap} {ls : Array Slot} (hdg : decode code pc = .ok (.ireturn, 1)) : W p l e room_1 s m #[Value.ref b] below meth c H [] 600000 7302250 (lw_Z below #[Value.ref b] s) (F0 m pc ls [.int 1]) := by
  intro T hT X
  obtain ⟨fs, hret, hrun, hended, hW, hframe⟩ := X.leave (v := some (.int 1)) (hlocks := hlocks) (fun h => by rw [hr] at h; cases h)
  have hmeth' : T.vm.method? m = some meth := X.method'
  refine ⟨T.setFrames fs, ?_, .returned (some (.int 1)), hrun, hended, rfl, ⟨_, rfl⟩, hW, hframe⟩
  jvm_step X.here [X.here.top, hx, hb, hdg, hmeth', hr, ret, narrow_b1]
  (try refine ⟨rfl, ?_⟩); (try refine ⟨rfl, ?_⟩)
  first | (intro acts; rw [hret _ acts rfl rfl rfl]) | rw [hret _ _ rfl rfl rfl]
  exact Steps.refl _
/-- what holds at the law's entry: the machine, the code, the tables' words (any of lw_tbl by 'hts w (by decide +kernel)'), the script of L ints xs at the cell b, what the Statement gives of the start (any of its parts by flat_of_before) -/
def lw_At (p : Program) (s : State) (m : MethodId) (meth : Method) (c : Code) (b L : Nat) (xs : Nat → Int32) : Prop :=
  p.tables.exec = Jvm.exec ∧ c.code = code ∧ meth.sig.returnType = ret ∧ c.maxLocals = 26 ∧ s.vm.findClass R_law = some m.cls ∧ (∀ w ∈ lw_tbl, w.before #[Value.ref b] s = true) ∧ va_X b L xs s s.heap ∧ b < s.heap.size ∧ meth.locks = false ∧ (Jvm.Cond.and given_1 narrow_1).before #[Value.ref b] s = true
abbrev m_law : sM := (⟨R_law, "law", "([I)Z"⟩, code, 26, ret, false)
set_option maxHeartbeats 4000000 in
/-- the law over the machine, from its run in the small one -/
theorem law_from {p : Program} {e : Env} {s : State} {m : MethodId} {below : List Frame} {meth : Method} {c : Code} (l : Launch) {b L : Nat} {xs : Nat → Int32} (hL : L ≤ 260) (C0 : lw_At p s m meth c b L xs) (d : Nat) (hd : d ≤ 1000)
    (hwp : ∀ G : sG, gL G ≤ 260 → wp G d m_law (fun r _ => r = some (.int 1)) 0 [some (.ref (gb G)), none, none, none, none, none, none, none, none, none, none, none, none, none, none, none, none, none, none, none, none, none, none, none, none, none] [] (fun _ => s_junk, 0) (600000, 7302250)) : W p l e room_1 s m #[Value.ref b] below meth c s.heap [] 0 0 (lw_Z below #[Value.ref b] s) (entryFrame m ([Value.ref b] : List Value).toArray 26) := by
  obtain ⟨hx, hb, hr, hml, hown, hts0, hX, hbl, hlocks, hgv⟩ := id C0
  have hts : ∀ x ∈ s_gw, x.before #[Value.ref b] s = true := fun x hx => hts0 x (List.mem_filter.mp hx).1
  have hs := flat_of_before _ hgv
  have hA : ∀ a : Nat, a < s.heap.size → ¬ (s.heap.size ≤ a) := fun a h => Nat.not_le.mpr h
  obtain ⟨aW, hv, hT⟩ := va_Tof (args := #[Value.ref b]) (s := s) (tm := .static "TropicRanks$Covers" "WITHOUT" "[J") (ty := .long) (N := 6) (f := fun j => .long (wW j)) (A := fun q => s.heap.size ≤ q) (by decide) (hs _ (by decide +kernel)) (va_eqt (z := Int32.ofNat 6) (hs _ (by decide +kernel)))
    (fun j hj => by
      match j, hj with
      | 0, _ => exact va_eqtl (hs _ (by decide +kernel))
      | 1, _ => exact va_eqtl (hs _ (by decide +kernel))
      | 2, _ => exact va_eqtl (hs _ (by decide +kernel))
      | 3, _ => exact va_eqtl (hs _ (by decide +kernel))
      | 4, _ => exact va_eqtl (hs _ (by decide +kernel))
      | 5, _ => exact va_eqtl (hs _ (by decide +kernel))
      | j + 6, h => exact absurd h (by omega)) hA
  have hZ := va_Zof (A := fun q => s.heap.size ≤ q) (hts0 (.laysStatic "TropicRanks$Covers" "WITHOUT" "[J") (by decide +kernel)) (hts (.initialized "TropicRanks$Covers") (by decide +kernel)) hv hA
  have haW : aW < s.heap.size := by
    obtain ⟨cell, t1, -⟩ := hT
    exact (Array.getElem?_eq_some_iff.mp t1).1
  have hkn : ∀ (k : Nat) (q : vw_C), vwCl[k]? = some q → ∃ (cC : ClassId) (iS : Nat → Nat), u_Kn s q.1 q.2.1 q.2.2 cC iS := by
    intro k q hq
    obtain ⟨C, T, N⟩ := q
    obtain ⟨hin, -, -⟩ := s_cls hq
    have hi : inT (.instantiable C N) := by
      match k, hq with
      | 0, hq => cases hq; exact (by decide +kernel : Cond.instantiable RX1 4 ∈ lw_tbl)
      | 1, hq => cases hq; exact (by decide +kernel : Cond.instantiable RX2 3 ∈ lw_tbl)
      | 2, hq => cases hq; exact (by decide +kernel : Cond.instantiable RX3 3 ∈ lw_tbl)
      | 3, hq => cases hq; exact (by decide +kernel : Cond.instantiable RX4 6 ∈ lw_tbl)
      | 4, hq => cases hq; exact (by decide +kernel : Cond.instantiable RX5 4 ∈ lw_tbl)
      | 5, hq => cases hq; exact (by decide +kernel : Cond.instantiable RX6 3 ∈ lw_tbl)
      | 6, hq => cases hq; exact (by decide +kernel : Cond.instantiable RX7 1 ∈ lw_tbl)
      | 7, hq => cases hq; exact (by decide +kernel : Cond.instantiable RX8 3 ∈ lw_tbl)
      | 8, hq => cases hq; exact (by decide +kernel : Cond.instantiable RX9 11 ∈ lw_tbl)
      | k + 9, hq => simp [vwCl] at hq
    exact u_known hts hin (hts _ (s_in hi rfl))
  obtain ⟨dC, dI, hKc⟩ : ∃ (dC : Nat → ClassId) (dI : Nat → Nat → Nat), ∀ (k : Nat) (q : vw_C), vwCl[k]? = some q → u_Kn s q.1 q.2.1 q.2.2 (dC k) (dI k) := by
    have h : ∀ k : Nat, ∃ (cC : ClassId) (iS : Nat → Nat), ∀ q : vw_C, vwCl[k]? = some q → u_Kn s q.1 q.2.1 q.2.2 cC iS := by
      intro k
      cases hq : vwCl[k]? with
      | none => exact ⟨default, fun _ => 0, fun q h => by cases h⟩
      | some q =>
        obtain ⟨cC, iS, h⟩ := hkn k q hq
        exact ⟨cC, iS, fun q' h' => by cases h'; exact h⟩
    exact ⟨fun k => Classical.choose (h k), fun k => Classical.choose (Classical.choose_spec (h k)), fun k q hq => Classical.choose_spec (Classical.choose_spec (h k)) q hq⟩
  have hprim : ∀ ty : FieldType, (∀ C, ty ≠ .object C) → inT (.arrayClass ty) → ∃ cA : ClassId, ArrOfT s cA ty ∧ va_RA s cA ty := by
    intro ty hne hin
    obtain ⟨cA, kA, comp, f1, f2, f3⟩ := Cond.arrayClass_spec (hts0 _ hin)
    refine ⟨cA, fun n z => ⟨fun k h => (by cases h), kA, f2, comp, f3⟩, ?_⟩
    cases ty <;> first | exact f1 | exact absurd rfl (hne _)
  have hobj : ∀ C : String, inT (.arrayOver (.object C)) → ∃ cA : ClassId, ArrOfT s cA (.object C) ∧ va_RA s cA (.object C) := by
    intro C hin
    obtain ⟨comp, cA, kA, f1, f2, f3, f4, f5⟩ := Cond.arrayOver_spec (hts0 _ hin)
    exact ⟨cA, fun n z => ⟨fun k h => (by cases h), kA, f3, comp, f4⟩, kA, comp, f3, f4, f1, f5⟩
  obtain ⟨c0, h0⟩ := hprim .int (fun C z => by cases z) (by unfold inT; decide +kernel)
  obtain ⟨c1, h1⟩ := hprim .long (fun C z => by cases z) (by unfold inT; decide +kernel)
  obtain ⟨c2, h2⟩ := hprim .char (fun C z => by cases z) (by unfold inT; decide +kernel)
  obtain ⟨c3, h3⟩ := hprim .boolean (fun C z => by cases z) (by unfold inT; decide +kernel)
  obtain ⟨c4, h4⟩ := hobj "TropicRanks$Grid" (by unfold inT; decide +kernel)
  obtain ⟨c5, h5⟩ := hobj "TropicRanks$State" (by unfold inT; decide +kernel)
  let G : sG := (fun k => match k with | 0 => c0 | 1 => c1 | 2 => c2 | 3 => c3 | 4 => c4 | _ => c5, s.heap.size, b, L, xs, aW)
  have hK : va_K (dC, dI) vwCl (s_tys G) s := ⟨hKc, fun k q hq => by
    match k, hq with
    | 0, hq => cases hq; exact h0
    | 1, hq => cases hq; exact h1
    | 2, hq => cases hq; exact h2
    | 3, hq => cases hq; exact h3
    | 4, hq => cases hq; exact h4
    | 5, hq => cases hq; exact h5
    | k + 6, hq => simp [s_tys] at hq⟩
  have hN : s_N s := fun x hx hn => by
    have h := hts0 x hx
    cases x <;> first | exact va_Nw.of rfl h | (simp [s_nest] at hn)
  have hFX : s_FX G s s.heap := ⟨hX, hbl, haW, hZ, ⟨hT, va_AO.of (hts0 (.arrayOver (.object "TropicRanks$Grid")) (by decide +kernel)), va_AO.of (hts0 (.arrayOver (.object "TropicRanks$State")) (by decide +kernel))⟩, Nat.le_refl _⟩
  have hl := lv_entry ([.ref b]) (n := 26) (Nat.le_of_ble_eq_true rfl)
  rw [lg_entry_eq]
  refine hwp G hL (s_IW p l e room_1 s m #[Value.ref b] below meth c (lw_Z below #[Value.ref b] s) (dC, dI) G m_law) (s_close (P := fun r _ => r = some (.int 1)) ⟨hx, hb, hml, hown, hts, hN, hK, fun q => absurd q (by decide +kernel), hFX, by show d + 1 ≤ 2048; omega, by show 64 * d + 64 ≤ 84000; omega⟩ (s_sound l d) ?_ ?_) s.heap [] 0 0 _ ?_ va_S.rf ⟨rfl, ?_, ?_⟩ (Nat.le_of_ble_eq_true rfl) (Nat.le_of_ble_eq_true rfl)
  · intro pc v ty w' H locs cells slots arr hdd hty hn hp hr' hS' hc1 hc2
    cases hp
    refine va_forget (fun q hq => hS'.2.2 q hq) ?_
    refine W.widen (k := 600000) (n := 7302250) hc1 hc2 ?_
    exact lw_ret hx hb hr hlocks hdd
  · intro pc w' H locs cells slots arr hdd hty
    exact absurd hty (by decide)
  · exact ⟨rfl, fun a g1 g2 => absurd g2 (Nat.not_lt.mpr g1), fun a _ => rfl⟩
  · refine lv_mono hl ?_
    rintro ⟨i, v⟩ hq
    rw [s_lv_mem] at hq
    match i, hq with
    | 0, hq => cases hq; exact List.mem_cons_self
    | 1, hq => cases hq
    | 2, hq => cases hq
    | 3, hq => cases hq
    | 4, hq => cases hq
    | 5, hq => cases hq
    | 6, hq => cases hq
    | 7, hq => cases hq
    | 8, hq => cases hq
    | 9, hq => cases hq
    | 10, hq => cases hq
    | 11, hq => cases hq
    | 12, hq => cases hq
    | 13, hq => cases hq
    | 14, hq => cases hq
    | 15, hq => cases hq
    | 16, hq => cases hq
    | 17, hq => cases hq
    | 18, hq => cases hq
    | 19, hq => cases hq
    | 20, hq => cases hq
    | 21, hq => cases hq
    | 22, hq => cases hq
    | 23, hq => cases hq
    | 24, hq => cases hq
    | 25, hq => cases hq
    | i + 26, hq => simp at hq
  · intro _ i v hq
    match i, hq with
    | 0, hq => cases hq; rfl
    | 1, hq => cases hq
    | 2, hq => cases hq
    | 3, hq => cases hq
    | 4, hq => cases hq
    | 5, hq => cases hq
    | 6, hq => cases hq
    | 7, hq => cases hq
    | 8, hq => cases hq
    | 9, hq => cases hq
    | 10, hq => cases hq
    | 11, hq => cases hq
    | 12, hq => cases hq
    | 13, hq => cases hq
    | 14, hq => cases hq
    | 15, hq => cases hq
    | 16, hq => cases hq
    | 17, hq => cases hq
    | 18, hq => cases hq
    | 19, hq => cases hq
    | 20, hq => cases hq
    | 21, hq => cases hq
    | 22, hq => cases hq
    | 23, hq => cases hq
    | 24, hq => cases hq
    | 25, hq => cases hq
    | i + 26, hq => simp at hq
