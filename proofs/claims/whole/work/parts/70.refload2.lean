/-! the reference: load -/
theorem mx_iff {l : List Nat} : 4 < mxL l ↔ ∃ q, q < l.length ∧ 4 < l.getD q 0 := by
  constructor
  · intro h
    apply Classical.byContradiction
    intro hc
    have : ∀ b, b ≤ 4 → l.foldl max b ≤ 4 := by
      have hl : ∀ x ∈ l, x ≤ 4 := fun x hx => by
        obtain ⟨q, hq, hqx⟩ := List.getElem_of_mem hx
        apply Nat.le_of_not_lt
        intro z
        exact hc ⟨q, hq, by rw [List.getD_eq_getElem?_getD, List.getElem?_eq_getElem hq, hqx]; exact z⟩
      clear hc h
      induction l with
      | nil => intro b hb; exact hb
      | cons y l ih =>
        intro b hb
        have := hl y List.mem_cons_self
        exact ih (fun x hx => hl x (List.mem_cons_of_mem _ hx)) _ (by omega)
    have := this 0 (by decide)
    unfold mxL at h
    omega
  · intro ⟨q, hq, h⟩
    rw [List.getD_eq_getElem?_getD, List.getElem?_eq_getElem hq] at h
    have : l[q] ≤ mxL l := le_mxL (List.getElem_mem hq)
    have h : 4 < l[q] := h
    omega
theorem foldl_max_all {l : List Nat} {x : Nat} (h : ∀ y ∈ l, y = x) : ∀ b, l.foldl max b = if l = [] then b else max b x := by
  induction l with
  | nil => intro b; simp
  | cons y l ih =>
    intro b
    have hy := h y List.mem_cons_self
    have e1 : (y :: l : List Nat) ≠ [] := List.cons_ne_nil _ _
    rw [List.foldl_cons, ih (fun z hz => h z (List.mem_cons_of_mem _ hz)), if_neg e1, hy]
    by_cases hl : l = []
    · rw [if_pos hl]
    · rw [if_neg hl]
      omega
theorem foldl_min_all {l : List Nat} {x : Nat} (h : ∀ y ∈ l, y = x) : ∀ b, l.foldl min b = if l = [] then b else min b x := by
  induction l with
  | nil => intro b; simp
  | cons y l ih =>
    intro b
    have hy := h y List.mem_cons_self
    have e1 : (y :: l : List Nat) ≠ [] := List.cons_ne_nil _ _
    rw [List.foldl_cons, ih (fun z hz => h z (List.mem_cons_of_mem _ hz)), if_neg e1, hy]
    by_cases hl : l = []
    · rw [if_pos hl]
    · rw [if_neg hl]
      omega
theorem alike_iff {l : List Nat} (h0 : l ≠ []) (h80 : ∀ x ∈ l, x ≤ 80) : mxL l = mnL l ↔ ∀ q, 1 ≤ q → q < l.length → l.getD q 0 = l.getD 0 0 := by
  have hl : 0 < l.length := List.length_pos_iff.mpr h0
  have g0 : l.getD 0 0 = l[0] := by rw [List.getD_eq_getElem?_getD, List.getElem?_eq_getElem hl]; rfl
  constructor
  · intro h q h1 hq
    have a1 := le_mxL (List.getElem_mem hq)
    have a2 := mnL_le2 (List.getElem_mem hq)
    have a3 := le_mxL (List.getElem_mem hl)
    have a4 := mnL_le2 (List.getElem_mem hl)
    rw [g0, List.getD_eq_getElem?_getD, List.getElem?_eq_getElem hq]
    show l[q] = l[0]
    omega
  · intro h
    have hall : ∀ y ∈ l, y = l[0] := fun y hy => by
      obtain ⟨q, hq, hqy⟩ := List.getElem_of_mem hy
      by_cases hq0 : q = 0
      · subst hq0; exact hqy.symm
      · have := h q (by omega) hq
        rw [g0, List.getD_eq_getElem?_getD, List.getElem?_eq_getElem hq] at this
        have this : l[q] = l[0] := this
        omega
    have b := h80 _ (List.getElem_mem hl)
    unfold mxL mnL
    rw [foldl_max_all hall, foldl_min_all hall, if_neg h0, if_neg h0]
    omega
def get10L (fs : List Value) : Int32 := match fs[10]? with
  | some (Value.int x) => x
  | _ => 0
def get10 (e : va_E) : Int32 := match e with
  | .inr p => get10L p.2
  | .inl _ => 0
theorem mO_tr {w : sW} {D : Nat} {v v' : M7} (h : mO w D v) (h' : mO w D v') : v.2.2.2.1 = v'.2.2.2.1 := congrArg get10 (h.symm.trans h')
section REFM
variable {G : sG} {d D : Nat} {P : sQ} {w : sW} {v : M7} {st : Nat → Nat} {s : xS}
theorem m_areTooMany {tm tr : Nat} {lg : Nat → Nat} (h : mO w D v) (h1 : v.2.2.1 = nI tm) (h2 : v.2.2.2.1 = nI tr) (hlg : w.1 (D + 7) = aN G 48 lg) (l1 : tm < 48) (l2 : tr < 48) (hb : ∀ q, q < tr → lg q < 1000) (kt : (4 < tr ∨ 12 < tm ∨ ∃ q, q < tr ∧ 4 < lg q) → P (some (.int (nI 1))) w) (kf : ¬ (4 < tr ∨ 12 < tm ∨ ∃ q, q < tr ∧ 4 < lg q) → P (some (.int (nI 0))) w) : wpM G (d + 1) yX10_areTooMany (0, 0) [.ref D] w P := by
  obtain ⟨r1, r2, r3, r4, r5⟩ := v
  have h1 : r3 = nI tm := h1
  have h2 : r4 = nI tr := h2
  subst h1
  subst h2
  refine eX10_areTooMany ?_
  have L : ∀ m j (b : Bool), j + m = tr → (b = true ↔ (4 < tr ∨ 12 < tm ∨ ∃ q, q < j ∧ 4 < lg q)) → wp G d mX10_areTooMany P 25 [some (.ref D), some (.int (nI (tf b))), some (.int (nI j))] [] w (0, 0) := by
    intro m
    induction m with
    | zero =>
      intro j b hj hbi
      have hje : j = tr := by omega
      subst hje
      refine qX10_areTooMany_25 ?_
      refine qX10_areTooMany_26 ?_
      refine qX10_areTooMany_27 (by assumption) ?_
      show wp G d mX10_areTooMany P 30 _ (.int (nI j) :: .int (nI j) :: []) w (0, 0)
      refine nX10_areTooMany_30 (by omega) (by omega) (fun h30 => ?_) (fun h30 => by exfalso; omega)
      cases b with
      | true =>
        refine qX10_areTooMany_59 ?_
        refine qX10_areTooMany_60 rfl ?_
        exact kt (hbi.mp rfl)
      | false =>
        refine qX10_areTooMany_59 ?_
        refine qX10_areTooMany_60 rfl ?_
        exact kf (fun z => absurd (hbi.mpr z) (by decide))
    | succ m ih =>
      intro j b hj hbi
      have hx := hb j (by omega)
      refine qX10_areTooMany_25 ?_
      refine qX10_areTooMany_26 ?_
      refine qX10_areTooMany_27 (by assumption) ?_
      show wp G d mX10_areTooMany P 30 _ (.int (nI tr) :: .int (nI j) :: []) w (0, 0)
      refine nX10_areTooMany_30 (by omega) (by omega) (fun h30 => by exfalso; omega) (fun h30 => ?_)
      refine qX10_areTooMany_33 ?_
      have up : ∀ b' : Bool, (b' = true ↔ (b = true ∨ 4 < lg j)) → wp G d mX10_areTooMany P 52 [some (.ref D), some (.int (nI (tf b))), some (.int (nI j))] [.int (nI (tf b'))] w (0, 0) := by
        intro b' hb'
        refine qX10_areTooMany_52 ?_
        first | refine nX10_areTooMany_53 ?_ | refine qX10_areTooMany_53 ?_
        refine qX10_areTooMany_56 ?_
        refine ih (j + 1) b' (by omega) ?_
        rw [hb', hbi]
        constructor
        · rintro ((z | z | ⟨q, z1, z2⟩) | z)
          · exact Or.inl z
          · exact Or.inr (Or.inl z)
          · exact Or.inr (Or.inr ⟨q, by omega, z2⟩)
          · exact Or.inr (Or.inr ⟨j, by omega, z⟩)
        · rintro (z | z | ⟨q, z1, z2⟩)
          · exact Or.inl (Or.inl z)
          · exact Or.inl (Or.inr (Or.inl z))
          · by_cases hq : q = j
            · subst hq; exact Or.inr z2
            · exact Or.inl (Or.inr (Or.inr ⟨q, by omega, z2⟩))
      cases b with
      | true =>
        show wp G d mX10_areTooMany P 34 _ (.int (nI 1) :: []) w (0, 0)
        refine nX10_areTooMany_34 (by omega) (fun h34 => ?_) (fun h34 => by exfalso; omega)
        refine qX10_areTooMany_47 ?_
        refine qX10_areTooMany_48 ?_
        exact up true (by simp)
      | false =>
        show wp G d mX10_areTooMany P 34 _ (.int (nI 0) :: []) w (0, 0)
        refine nX10_areTooMany_34 (by omega) (fun h34 => by exfalso; omega) (fun h34 => ?_)
        refine qX10_areTooMany_37 ?_
        refine qX10_areTooMany_38 (by assumption) ?_
        refine qX10_areTooMany_41 ?_
        first | refine fX10_areTooMany_42 (by assumption) (by omega) (by decide) ?_ | refine nX10_areTooMany_42 (by assumption) (by omega) (by decide) ?_
        refine qX10_areTooMany_43 ?_
        refine nX10_areTooMany_44 (by omega) (by omega) (fun h44 => ?_) (fun h44 => ?_)
        · refine qX10_areTooMany_51 ?_
          exact up false (by simp; omega)
        · refine qX10_areTooMany_47 ?_
          refine qX10_areTooMany_48 ?_
          exact up true (by simp; omega)
  have big : (4 < tr ∨ 12 < tm) → wp G d mX10_areTooMany P 17 [some (.ref D), none, none] [] w (0, 0) := by
    intro z
    refine qX10_areTooMany_17 ?_
    refine qX10_areTooMany_18 ?_
    refine qX10_areTooMany_22 ?_
    refine qX10_areTooMany_23 ?_
    refine qX10_areTooMany_24 ?_
    exact L tr 0 true (by omega) (by
      constructor
      · intro _
        rcases z with z | z
        · exact Or.inl z
        · exact Or.inr (Or.inl z)
      · intro _; rfl)
  refine qX10_areTooMany_0 ?_
  refine qX10_areTooMany_1 (by assumption) ?_
  refine qX10_areTooMany_4 ?_
  show wp G d mX10_areTooMany P 5 _ (.int (nI 4) :: .int (nI tr) :: []) w (0, 0)
  refine nX10_areTooMany_5 (by omega) (by omega) (fun h5 => ?_) (fun h5 => ?_)
  · exact big (Or.inl h5)
  · refine qX10_areTooMany_8 ?_
    refine qX10_areTooMany_9 (by assumption) ?_
    refine qX10_areTooMany_12 ?_
    show wp G d mX10_areTooMany P 14 _ (.int (nI 12) :: .int (nI tm) :: []) w (0, 0)
    refine nX10_areTooMany_14 (by omega) (by omega) (fun h14 => ?_) (fun h14 => ?_)
    · refine qX10_areTooMany_21 ?_
      refine qX10_areTooMany_22 ?_
      refine qX10_areTooMany_23 ?_
      refine qX10_areTooMany_24 ?_
      exact L tr 0 false (by omega) (by
        constructor
        · intro z; exact absurd z (by decide)
        · rintro (z | z | ⟨q, z, _⟩) <;> omega)
    · exact big (Or.inr h14)
theorem m_areAlike {tr : Nat} {lg : Nat → Nat} (h : mO w D v) (h2 : v.2.2.2.1 = nI tr) (hlg : w.1 (D + 7) = aN G 48 lg) (l1 : 1 ≤ tr) (l2 : tr < 48) (hb : ∀ q, q < tr → lg q < 1000) (kt : (∀ q, 1 ≤ q → q < tr → lg q = lg 0) → P (some (.int (nI 1))) w) (kf : ¬ (∀ q, 1 ≤ q → q < tr → lg q = lg 0) → P (some (.int (nI 0))) w) : wpM G (d + 1) yX10_areAlike (0, 0) [.ref D] w P := by
  obtain ⟨r1, r2, r3, r4, r5⟩ := v
  have h2 : r4 = nI tr := h2
  subst h2
  refine eX10_areAlike ?_
  refine qX10_areAlike_0 ?_
  refine qX10_areAlike_1 ?_
  refine qX10_areAlike_2 ?_
  refine qX10_areAlike_3 ?_
  have L : ∀ m j (b : Bool), 1 ≤ j → j + m = tr → (b = true ↔ (∀ q, 1 ≤ q → q < j → lg q = lg 0)) → wp G d mX10_areAlike P 4 [some (.ref D), some (.int (nI (tf b))), some (.int (nI j))] [] w (0, 0) := by
    intro m
    induction m with
    | zero =>
      intro j b h1 hj hbi
      have hje : j = tr := by omega
      subst hje
      refine qX10_areAlike_4 ?_
      refine qX10_areAlike_5 ?_
      refine qX10_areAlike_6 (by assumption) ?_
      show wp G d mX10_areAlike P 9 _ (.int (nI j) :: .int (nI j) :: []) w (0, 0)
      refine nX10_areAlike_9 (by omega) (by omega) (fun h9 => ?_) (fun h9 => by exfalso; omega)
      cases b with
      | true =>
        refine qX10_areAlike_43 ?_
        refine qX10_areAlike_44 rfl ?_
        exact kt (hbi.mp rfl)
      | false =>
        refine qX10_areAlike_43 ?_
        refine qX10_areAlike_44 rfl ?_
        exact kf (fun z => absurd (hbi.mpr z) (by decide))
    | succ m ih =>
      intro j b h1 hj hbi
      have hx := hb j (by omega)
      have hx0 := hb 0 (by omega)
      refine qX10_areAlike_4 ?_
      refine qX10_areAlike_5 ?_
      refine qX10_areAlike_6 (by assumption) ?_
      show wp G d mX10_areAlike P 9 _ (.int (nI tr) :: .int (nI j) :: []) w (0, 0)
      refine nX10_areAlike_9 (by omega) (by omega) (fun h9 => by exfalso; omega) (fun h9 => ?_)
      refine qX10_areAlike_12 ?_
      have up : ∀ b' : Bool, (b' = true ↔ (b = true ∧ lg j = lg 0)) → wp G d mX10_areAlike P 36 [some (.ref D), some (.int (nI (tf b))), some (.int (nI j))] [.int (nI (tf b'))] w (0, 0) := by
        intro b' hb'
        refine qX10_areAlike_36 ?_
        first | refine nX10_areAlike_37 ?_ | refine qX10_areAlike_37 ?_
        refine qX10_areAlike_40 ?_
        refine ih (j + 1) b' (by omega) (by omega) ?_
        rw [hb', hbi]
        constructor
        · rintro ⟨z1, z2⟩ q hq1 hq2
          by_cases hq : q = j
          · subst hq; exact z2
          · exact z1 q hq1 (by omega)
        · intro z
          exact ⟨fun q hq1 hq2 => z q hq1 (by omega), z j h1 (by omega)⟩
      cases b with
      | true =>
        show wp G d mX10_areAlike P 13 _ (.int (nI 1) :: []) w (0, 0)
        refine nX10_areAlike_13 (by omega) (fun h13 => by exfalso; omega) (fun h13 => ?_)
        refine qX10_areAlike_16 ?_
        refine qX10_areAlike_17 (by assumption) ?_
        refine qX10_areAlike_20 ?_
        first | refine fX10_areAlike_21 (by assumption) (by omega) (by decide) ?_ | refine nX10_areAlike_21 (by assumption) (by omega) (by decide) ?_
        refine qX10_areAlike_22 ?_
        refine qX10_areAlike_23 (by assumption) ?_
        refine qX10_areAlike_26 ?_
        first | refine fX10_areAlike_27 (by assumption) (by omega) (by decide) ?_ | refine nX10_areAlike_27 (by assumption) (by omega) (by decide) ?_
        refine nX10_areAlike_28 (by omega) (by omega) (fun h28 => ?_) (fun h28 => ?_)
        · refine qX10_areAlike_35 ?_
          exact up false (by simp; exact h28)
        · refine qX10_areAlike_31 ?_
          refine qX10_areAlike_32 ?_
          exact up true (by simp; exact h28)
      | false =>
        show wp G d mX10_areAlike P 13 _ (.int (nI 0) :: []) w (0, 0)
        refine nX10_areAlike_13 (by omega) (fun h13 => ?_) (fun h13 => by exfalso; omega)
        refine qX10_areAlike_35 ?_
        exact up false (by simp)
  exact L (tr - 1) 1 true (Nat.le_refl 1) (by omega) (by
    constructor
    · intro _ q hq1 hq2; omega
    · intro _; rfl)
set_option maxHeartbeats 1000000 in
theorem m_load {x : Int32} (h : mdAt G w D s) (ho : okS s) (k : ∀ w', Fr w w' (sD D) → mdAt G w' D (spLoad s x).2 → P (some (.int (spLoad s x).1)) w') : wpM G (d + 4) yX10_load (0, 0) [.ref D, .int x] w P := by
  obtain ⟨⟨v, o1, o2, o3⟩, p2, p3, p4, p5, ⟨pd, p6, p6'⟩, ⟨td, t1⟩, ⟨lg, t2⟩, t3, t4, t5, t6, t7⟩ := id h
  obtain ⟨_, _, _, _, h80, h256⟩ := id ho
  unfold spLoad at k
  refine eX10_load ?_
  refine qX10_load_0 ?_
  refine qX10_load_1 (Nat.le_of_ble_eq_true rfl) (m_isArray (fun i hi hx => ?_) (fun hx => ?_))
  · subst hx
    rw [nN_nI (by omega), cIf_t (inB_nI hi)] at k
    refine nX10_load_4 (by omega) (fun h4 => ?_) (fun h4 => by exfalso; omega)
    refine qX10_load_9 ?_
    refine qX10_load_10 (by assumption) (Nat.le_of_ble_eq_true rfl) (m_findFault o1 o3 h80 p6 p6' h256 t1 t2 (fun w1 td1 lg1 tm tr hF1 m1 q1 q2 hff => ?_))
    have hsc : scM G w1 D := by
      obtain ⟨f3, t3⟩ := t3
      obtain ⟨f4, t4⟩ := t4
      obtain ⟨f5, t5⟩ := t5
      obtain ⟨f6, t6⟩ := t6
      obtain ⟨f7, t7⟩ := t7
      exact ⟨⟨td1, q1⟩, ⟨lg1, q2⟩, ⟨f3, by rw [hF1.2 _ (by omega)]; exact t3⟩, ⟨f4, by rw [hF1.2 _ (by omega)]; exact t4⟩, ⟨f5, by rw [hF1.2 _ (by omega)]; exact t5⟩, ⟨f6, by rw [hF1.2 _ (by omega)]; exact t6⟩, f7, by rw [hF1.2 _ (by omega)]; exact t7⟩
    have hm1 : mdAt G w1 D s := h.scr (hF1.mono (fun q hq => by omega)) ⟨_, m1, o2, o3⟩ hsc
    have hFs : Fr w w1 (sD D) := hF1.mono (fun q hq => by unfold sD; omega)
    have hno := fI_none (fun k hk => by have := fF_le _ _ _ _ hk; omega : ∀ k, fF (lc s) (ln s) 0 none = some k → k ≤ 80)
    refine qX10_load_13 ?_
    refine qX10_load_15 (fun h15 => ?_) (fun h15 => ?_)
    · have hf0 := hno.mp h15
      rw [if_pos hf0] at k
      obtain ⟨e1, e2, e3, e4, e5, e6⟩ := hff hf0
      obtain ⟨mb1, mb2, mb3, mb4⟩ := msr_bd (lc s) (ln s)
      have l3 : mxL (lnS (lc s) (ln s)) ≤ 81 := by unfold lnS; rw [mxL_app]; omega
      have k1 := (fF_ok (ln s) 0 none hf0 rfl (by simp) (fun y hy => by simp [rdv] at hy)).2
      rw [Nat.zero_add] at k1
      have k3 := vl_len (fun j hj => k1 j (by omega) (by omega))
      have hlb : ∀ q, q < (lnS (lc s) (ln s)).length → lg1 q < 1000 := fun q hq => by
        rw [e4 q hq, List.getD_eq_getElem?_getD, List.getElem?_eq_getElem hq]
        have : (lnS (lc s) (ln s))[q] ≤ mxL (lnS (lc s) (ln s)) := le_mxL (List.getElem_mem hq)
        show (lnS (lc s) (ln s))[q] < 1000
        omega
      have hl1 : 1 ≤ (lnS (lc s) (ln s)).length := by unfold lnS; simp
      have hxi : (∃ q, q < (lnS (lc s) (ln s)).length ∧ 4 < lg1 q) ↔ 4 < mxL (lnS (lc s) (ln s)) := by
        rw [mx_iff]
        constructor
        · rintro ⟨q, a, b⟩; exact ⟨q, a, by rw [← e4 q a]; exact b⟩
        · rintro ⟨q, a, b⟩; exact ⟨q, a, by rw [e4 q a]; exact b⟩
      refine qX10_load_21 ?_
      refine qX10_load_22 (by assumption) (Nat.le_of_ble_eq_true rfl) (m_areTooMany m1 e1 e2 q2 (by omega) (by omega) hlb (fun hbig => ?_) (fun hbig => ?_))
      · rw [hxi, k3] at hbig
        rw [if_pos (by omega)] at k
        refine nX10_load_25 (by omega) (fun h25 => by exfalso; omega) (fun h25 => ?_)
        refine qX10_load_28 ?_
        refine qX10_load_30 ?_
        exact k w1 hFs hm1
      · rw [hxi, k3] at hbig
        rw [if_neg (by omega)] at k
        have hne : lnS (lc s) (ln s) ≠ [] := by
          intro z
          rw [z] at hl1
          exact absurd hl1 (by decide)
        have hali : (∀ q, 1 ≤ q → q < (lnS (lc s) (ln s)).length → lg1 q = lg1 0) ↔ mxL (lnS (lc s) (ln s)) = mnL (lnS (lc s) (ln s)) := by
          rw [alike_iff hne (fun x hx => by
            have := le_mxL hx
            omega)]
          constructor
          · intro z q a b
            rw [← e4 q b, ← e4 0 (by omega)]
            exact z q a b
          · intro z q a b
            rw [e4 q b, e4 0 (by omega)]
            exact z q a b
        refine nX10_load_25 (by omega) (fun h25 => ?_) (fun h25 => by exfalso; omega)
        refine qX10_load_31 ?_
        refine qX10_load_32 (by assumption) (Nat.le_of_ble_eq_true rfl) (m_areAlike m1 e2 q2 hl1 (by omega) hlb (fun hal => ?_) (fun hal => ?_))
        · rw [hali] at hal
          rw [if_pos hal] at k
          obtain ⟨c1, c2, c3⟩ := ld_ok hf0 (by omega) hal
          have hlg0 : lg1 0 = mxL (lnS (lc s) (ln s)) := by
            rw [e4 0 (by omega), List.getD_eq_getElem?_getD, List.getElem?_eq_getElem hl1]
            have a1 : (lnS (lc s) (ln s))[0] ≤ mxL (lnS (lc s) (ln s)) := le_mxL (List.getElem_mem hl1)
            have a2 : mnL (lnS (lc s) (ln s)) ≤ (lnS (lc s) (ln s))[0] := mnL_le2 (List.getElem_mem hl1)
            show (lnS (lc s) (ln s))[0] = _
            omega
          refine nX10_load_35 (by omega) (fun h35 => ?_) (fun h35 => by exfalso; omega)
          refine qX10_load_41 ?_
          refine qX10_load_42 (by assumption) (Nat.le_of_ble_eq_true rfl) (m_recordV hm1 ho (fun w2 va vb ma mb hvv hF2 hm2 => ?_))
          obtain ⟨⟨v2, o4, o5, o6⟩, ⟨st2, p7, p8⟩, p9, p10, p11, p12, p13⟩ := id hm2
          have hvb : v2.2.2.2.1 = nI (lnS (lc s) (ln s)).length := by
            rw [mO_tr o4 mb, hvv, mO_tr ma m1]
            exact e2
          clear mb
          have q3 : w2.1 (D + 7) = aN G 48 lg1 := by rw [hF2.2 _ (by omega)]; exact q2
          have q4 : w2.1 (D + 6) = aN G 48 td1 := by rw [hF2.2 _ (by omega)]; exact q1
          refine qX10_load_45 ?_
          refine qX10_load_46 ?_
          refine qX10_load_47 ?_
          refine qX10_load_48 (by assumption) ?_
          rw [hvb]
          refine qX10_load_51 ?_
          refine qX10_load_52 (by assumption) ?_
          refine qX10_load_55 ?_
          first | refine fX10_load_56 (by assumption) (by omega) (by decide) ?_ | refine nX10_load_56 (by assumption) (by omega) (by decide) ?_
          rw [hlg0]
          refine qX10_load_57 (by assumption) (Nat.le_of_ble_eq_true rfl) (m_becomes o4 p7 p8 ho.1 q4 hi (by rw [c3]; exact c2) (fun w3 st3 hF3 q5 hV3 => ?_))
          have mb3 : mO w3 D v2 := (hF3.2 D (by omega)).trans o4
          have hV4 : stV st3 (setA (lA s) i (ldV (lc s) (ln s))) := hV3.sub (fun j hj => by
            unfold setA
            by_cases hji : j = i
            · subst hji
              rw [if_pos rfl, if_pos rfl]
              exact ⟨rfl, rfl, fun q hq => e3 q (by rw [← c3]; exact hq)⟩
            · rw [if_neg hji, if_neg hji]
              exact eqA.rf)
          have hm3 := hm2.stt (hF3.mono (fun q hq => Or.inl hq)) ⟨st3, q5, hV4⟩ ⟨td1, by rw [hF3.2 _ (by omega)]; exact q4⟩
          refine qX10_load_60 ?_
          refine qX10_load_61 ?_
          refine qX10_load_62 (by assumption) ?_
          generalize hw4 : s_up w3 D _ = w4
          have hF4 : Fr w3 w4 (fun q => q = D) := by rw [← hw4]; exact Fr.rf.up rfl
          have m4 : mO w4 D (v2.1, 0, v2.2.2.1, v2.2.2.2.1, v2.2.2.2.2.1, v2.2.2.2.2.2.1, v2.2.2.2.2.2.2) := by rw [← hw4]; exact s_upS
          have q6 : w4.1 (D + 1) = aN G 42 st3 := by rw [hF4.2 _ (by omega)]; exact q5
          obtain ⟨g1, g2, _⟩ := hV4 i hi
          rw [setAs] at g1 g2
          have g1 : rR st3 i = (lnS (lc s) (ln s)).length := g1
          have g2 : rC st3 i = mxL (lnS (lc s) (ln s)) := g2
          refine qX10_load_65 ?_
          refine qX10_load_66 ?_
          refine qX10_load_67 (by assumption) (Nat.le_of_ble_eq_true rfl) (m_entriesOf m4 q6 hi ?_)
          rw [g1, g2]
          refine qX10_load_70 ?_
          obtain ⟨_, h2, h3, h4, h5, ⟨pd5, h6, h6'⟩, h7⟩ := hm3
          exact k w4 (((hFs.tr hF2 (fun q hq => by unfold sD; omega)).tr hF3 (fun q hq => by unfold sD; omega)).tr hF4 (fun q hq => by unfold sD; omega)) ⟨⟨_, m4, o5, rfl⟩, h2.fr hF4 (by omega), h3.fr hF4 (by omega), h4.fr hF4 (by omega), h5.fr hF4 (by omega), ⟨pd5, by rw [hF4.2 _ (by omega)]; exact h6, fun j hj => absurd hj (Nat.not_lt_zero j)⟩, h7.fr hF4 (fun q a1 a2 => by omega)⟩
        · rw [hali] at hal
          rw [if_neg hal] at k
          refine nX10_load_35 (by omega) (fun h35 => by exfalso; omega) (fun h35 => ?_)
          refine qX10_load_38 ?_
          refine qX10_load_40 ?_
          exact k w1 hFs hm1
    · rw [if_neg (fun e => h15 (hno.mpr e))] at k
      refine qX10_load_18 ?_
      refine qX10_load_20 ?_
      exact k w1 hFs hm1
  · rw [cIf_f hx] at k
    refine nX10_load_4 (by omega) (fun h4 => by exfalso; omega) (fun h4 => ?_)
    refine qX10_load_7 ?_
    refine qX10_load_8 ?_
    exact k w Fr.rf h
end REFM
