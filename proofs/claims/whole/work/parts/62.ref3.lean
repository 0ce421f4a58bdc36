/-! the reference: entry, arrayOf, count, set, undo, save, restore, wipe -/
theorem ent_iff {st : Nat → Nat} {t : Nat → GV} (hV : stV st t) {x y z : Int32} : (inB x 3 ∧ inB y (rR st (nN x)) ∧ inB z (rC st (nN x))) ↔ (inB x 3 ∧ inB y (t (nN x)).1 ∧ inB z (t (nN x)).2.1) := by
  constructor
  · intro ⟨a, b, c⟩
    obtain ⟨e1, e2, _⟩ := hV _ (inB_nN (by decide) a).1
    exact ⟨a, by rw [← e1]; exact b, by rw [← e2]; exact c⟩
  · intro ⟨a, b, c⟩
    obtain ⟨e1, e2, _⟩ := hV _ (inB_nN (by decide) a).1
    exact ⟨a, by rw [← e1] at b; exact b, by rw [← e2] at c; exact c⟩
theorem lin_iff (b : Bool) {st : Nat → Nat} {t : Nat → GV} (hV : stV st t) {x y : Int32} : (inB x 3 ∧ inB y (lnN b (rR st (nN x)) (rC st (nN x)))) ↔ (inB x 3 ∧ inB y (lnN b (t (nN x)).1 (t (nN x)).2.1)) := by
  constructor
  · intro ⟨a, c⟩
    obtain ⟨e1, e2, _⟩ := hV _ (inB_nN (by decide) a).1
    exact ⟨a, by rw [← e1, ← e2]; exact c⟩
  · intro ⟨a, c⟩
    obtain ⟨e1, e2, _⟩ := hV _ (inB_nN (by decide) a).1
    exact ⟨a, by rw [← e1, ← e2] at c; exact c⟩
def frG (a : Nat → Nat) (k i : Nat) : Bool := (List.range i).all (fun j => a j != a k)
theorem frG_succ (a : Nat → Nat) (k i : Nat) : frG a k (i + 1) = (frG a k i && (a i != a k)) := by
  simp [frG, List.range_succ, List.all_append]
theorem szS_V {st : Nat → Nat} {t : Nat → GV} (hV : stV st t) : rR st 0 * rC st 0 + rR st 1 * rC st 1 + rR st 2 * rC st 2 = szS t 3 := by
  obtain ⟨a1, a2, _⟩ := hV 0 (by decide)
  obtain ⟨b1, b2, _⟩ := hV 1 (by decide)
  obtain ⟨c1, c2, _⟩ := hV 2 (by decide)
  have a1 : rR st 0 = _ := a1
  have a2 : rC st 0 = _ := a2
  have b1 : rR st 1 = _ := b1
  have b2 : rC st 1 = _ := b2
  have c1 : rR st 2 = _ := c1
  have c2 : rC st 2 = _ := c2
  rw [a1, a2, b1, b2, c1, c2]
  simp only [szS]
  omega
section REF3
variable {G : sG} {d D : Nat} {P : sQ} {w : sW} {v : M7} {st : Nat → Nat} {s : xS}
theorem m_unlike {i : Nat} (h : mO w D v) (hs : w.1 (D + 1) = aN G 42 st) (hi : i < 3) (ho : okV (vwA st i)) (k : P (some (.int (nI (unlE (rE st i) (rR st i * rC st i))))) w) : wpM G (d + 3) yX10_unlike (0, 0) [.ref D, .int (nI i)] w P := by
  have hsz : rR st i * rC st i ≤ 12 := ho.1.2.2.2.2
  have ha : ∀ q, q < rR st i * rC st i → st (14 * i + 2 + q) ≤ 999 := ho.2
  refine eX10_unlike ?_
  refine qX10_unlike_0 ?_
  refine qX10_unlike_1 ?_
  refine qX10_unlike_2 ?_
  refine qX10_unlike_3 ?_
  have L : ∀ n j (l4 l5 : Option Value), j + n = rR st i * rC st i → wp G (d + 2) mX10_unlike P 4 [some (.ref D), some (.int (nI i)), some (.int (nI (unlE (rE st i) j))), some (.int (nI j)), l4, l5] [] w (0, 0) := by
    intro n
    induction n with
    | zero =>
      intro j l4 l5 hj
      refine qX10_unlike_4 ?_
      refine qX10_unlike_5 ?_
      refine qX10_unlike_6 ?_
      refine qX10_unlike_7 (by assumption) (Nat.le_of_ble_eq_true rfl) (m_entriesOf h hs hi ?_)
      refine nX10_unlike_10 (by omega) (by omega) (fun h10 => ?_) (fun h10 => by exfalso; omega)
      refine qX10_unlike_92 ?_
      refine qX10_unlike_93 ?_
      rw [show j = rR st i * rC st i by omega]
      exact k
    | succ n ih =>
      intro j l4 l5 hj
      have hu := unlE_le (a := rE st i) j
      refine qX10_unlike_4 ?_
      refine qX10_unlike_5 ?_
      refine qX10_unlike_6 ?_
      refine qX10_unlike_7 (by assumption) (Nat.le_of_ble_eq_true rfl) (m_entriesOf h hs hi ?_)
      refine nX10_unlike_10 (by omega) (by omega) (fun h10 => by exfalso; omega) (fun h10 => ?_)
      refine qX10_unlike_13 ?_
      refine qX10_unlike_14 ?_
      refine qX10_unlike_16 ?_
      refine qX10_unlike_17 ?_
      have L2 : ∀ p q, q + p = j → wp G (d + 2) mX10_unlike P 19 [some (.ref D), some (.int (nI i)), some (.int (nI (unlE (rE st i) j))), some (.int (nI j)), some (.int (nI (tf (frG (rE st i) j q)))), some (.int (nI q))] [] w (0, 0) := by
        intro p
        induction p with
        | zero =>
          intro q hq
          have hqj : q = j := by omega
          subst hqj
          have := ih (q + 1) (some (.int (nI (tf (frG (rE st i) q q))))) (some (.int (nI q))) (by omega)
          simp only [unlE] at this
          have e : freshN (rE st i) q = frG (rE st i) q q := rfl
          rw [e] at this
          refine qX10_unlike_19 ?_
          refine qX10_unlike_21 ?_
          refine nX10_unlike_22 (by omega) (by omega) (fun h22 => ?_) (fun h22 => by exfalso; omega)
          refine qX10_unlike_73 ?_
          refine qX10_unlike_74 ?_
          cases hb : frG (rE st i) q q
          · rw [hb, if_neg (by decide)] at this
            show wp G (d + 2) mX10_unlike P 76 _ (.int (nI 0) :: _) w (0, 0)
            refine nX10_unlike_76 (by omega) (fun h76 => ?_) (fun h76 => by exfalso; omega)
            refine qX10_unlike_83 ?_
            first | refine nX10_unlike_84 ?_ | refine qX10_unlike_84 ?_
            refine qX10_unlike_85 ?_
            first | refine nX10_unlike_86 ?_ | refine qX10_unlike_86 ?_
            refine qX10_unlike_89 ?_
            exact this
          · rw [hb, if_pos rfl] at this
            show wp G (d + 2) mX10_unlike P 76 _ (.int (nI 1) :: _) w (0, 0)
            refine nX10_unlike_76 (by omega) (fun h76 => by exfalso; omega) (fun h76 => ?_)
            refine qX10_unlike_79 ?_
            refine qX10_unlike_80 ?_
            first | refine nX10_unlike_84 ?_ | refine qX10_unlike_84 ?_
            refine qX10_unlike_85 ?_
            first | refine nX10_unlike_86 ?_ | refine qX10_unlike_86 ?_
            refine qX10_unlike_89 ?_
            exact this
        | succ p ih2 =>
          intro q hq
          have := ih2 (q + 1) (by omega)
          rw [frG_succ] at this
          have h1 := ha q (by omega)
          have h2 := ha j (by omega)
          refine qX10_unlike_19 ?_
          refine qX10_unlike_21 ?_
          refine nX10_unlike_22 (by omega) (by omega) (fun h22 => by exfalso; omega) (fun h22 => ?_)
          refine qX10_unlike_25 ?_
          cases hb : frG (rE st i) j q
          · rw [hb, Bool.false_and] at this
            show wp G (d + 2) mX10_unlike P 27 _ (.int (nI 0) :: _) w (0, 0)
            refine nX10_unlike_27 (by omega) (fun h27 => ?_) (fun h27 => by exfalso; omega)
            refine qX10_unlike_64 ?_
            refine qX10_unlike_65 ?_
            first | refine nX10_unlike_67 ?_ | refine qX10_unlike_67 ?_
            refine qX10_unlike_70 ?_
            exact this
          · rw [hb, Bool.true_and] at this
            show wp G (d + 2) mX10_unlike P 27 _ (.int (nI 1) :: _) w (0, 0)
            refine nX10_unlike_27 (by omega) (fun h27 => by exfalso; omega) (fun h27 => ?_)
            refine qX10_unlike_30 ?_
            refine qX10_unlike_31 (by assumption) ?_
            refine qX10_unlike_34 ?_
            refine qX10_unlike_36 ?_
            first | refine nX10_unlike_37 ?_ | refine qX10_unlike_37 ?_
            refine qX10_unlike_38 ?_
            first | refine nX10_unlike_39 ?_ | refine qX10_unlike_39 ?_
            refine qX10_unlike_40 ?_
            first | refine nX10_unlike_42 ?_ | refine qX10_unlike_42 ?_
            first | refine fX10_unlike_43 (by assumption) (by omega) (by decide) ?_ | refine nX10_unlike_43 (by assumption) (by omega) (by decide) ?_
            refine qX10_unlike_44 ?_
            refine qX10_unlike_45 (by assumption) ?_
            refine qX10_unlike_48 ?_
            refine qX10_unlike_50 ?_
            first | refine nX10_unlike_51 ?_ | refine qX10_unlike_51 ?_
            refine qX10_unlike_52 ?_
            first | refine nX10_unlike_53 ?_ | refine qX10_unlike_53 ?_
            refine qX10_unlike_54 ?_
            first | refine nX10_unlike_55 ?_ | refine qX10_unlike_55 ?_
            first | refine fX10_unlike_56 (by assumption) (by omega) (by decide) ?_ | refine nX10_unlike_56 (by assumption) (by omega) (by decide) ?_
            refine nX10_unlike_57 (by omega) (by omega) (fun h57 => ?_) (fun h57 => ?_)
            · rw [show (rE st i q != rE st i j) = false by rw [bne_eq_false_iff_eq]; exact h57] at this
              refine qX10_unlike_64 ?_
              refine qX10_unlike_65 ?_
              first | refine nX10_unlike_67 ?_ | refine qX10_unlike_67 ?_
              refine qX10_unlike_70 ?_
              exact this
            · rw [show (rE st i q != rE st i j) = true by rw [bne_iff_ne]; exact h57] at this
              refine qX10_unlike_60 ?_
              refine qX10_unlike_61 ?_
              refine qX10_unlike_65 ?_
              first | refine nX10_unlike_67 ?_ | refine qX10_unlike_67 ?_
              refine qX10_unlike_70 ?_
              exact this
      exact L2 j 0 (by omega)
  exact L (rR st i * rC st i) 0 none none (by omega)
theorem m_allEntries {t : Nat → GV} (h : mO w D v) (hs : w.1 (D + 1) = aN G 42 st) (hV : stV st t) (k : P (some (.int (nI (szS t 3)))) w) : wpM G (d + 3) yX10_allEntries (0, 0) [.ref D] w P := by
  refine eX10_allEntries ?_
  refine qX10_allEntries_0 ?_
  refine qX10_allEntries_1 ?_
  refine qX10_allEntries_2 (by assumption) (Nat.le_of_ble_eq_true rfl) (m_entriesOf h hs (by decide) ?_)
  refine qX10_allEntries_5 ?_
  refine qX10_allEntries_6 ?_
  refine qX10_allEntries_7 (by assumption) (Nat.le_of_ble_eq_true rfl) (m_entriesOf h hs (by decide) ?_)
  first | refine nX10_allEntries_10 ?_ | refine qX10_allEntries_10 ?_
  refine qX10_allEntries_11 ?_
  refine qX10_allEntries_12 ?_
  refine qX10_allEntries_13 (by assumption) (Nat.le_of_ble_eq_true rfl) (m_entriesOf h hs (by decide) ?_)
  first | refine nX10_allEntries_16 ?_ | refine qX10_allEntries_16 ?_
  refine qX10_allEntries_17 ?_
  rw [szS_V hV]
  exact k
theorem m_entry {x y z : Int32} (h : mdAt G w D s) (ho : okS s) (k : P (some (.int (spEntry s x y z))) w) : wpM G (d + 4) yX10_entry (0, 0) [.ref D, .int x, .int y, .int z] w P := by
  obtain ⟨⟨v, o1, o2, o3⟩, ⟨st, p1, p2⟩, _⟩ := h
  have hok := p2.ok ho.1
  unfold spEntry at k
  refine eX10_entry ?_
  refine qX10_entry_0 ?_
  refine qX10_entry_1 ?_
  refine qX10_entry_2 ?_
  refine qX10_entry_3 ?_
  refine qX10_entry_4 (by assumption) (Nat.le_of_ble_eq_true rfl) (m_isEntry o1 p1 hok (fun i r c hi hr hc hx hy hz => ?_) (fun hno => ?_))
  · subst hx
    subst hy
    subst hz
    obtain ⟨e1, e2, e3⟩ := p2 i hi
    have e1 : rR st i = _ := e1
    have e2 : rC st i = _ := e2
    have o5 := (hok i hi).1
    have b1 : rR st i ≤ 4 := o5.2.1
    have b2 : rC st i ≤ 4 := o5.2.2.2.1
    rw [nN_nI (by omega), nN_nI (by omega), nN_nI (by omega), cIf_t ⟨inB_nI hi, by rw [← e1]; exact inB_nI hr, by rw [← e2]; exact inB_nI hc⟩, ← e3 _ (by rw [← e1, ← e2]; exact o5.in hr hc), ← e2] at k
    refine nX10_entry_7 (by omega) (fun h7 => by exfalso; omega) (fun h7 => ?_)
    refine qX10_entry_10 ?_
    refine qX10_entry_11 ?_
    refine qX10_entry_12 ?_
    refine qX10_entry_13 ?_
    refine qX10_entry_14 (by assumption) (Nat.le_of_ble_eq_true rfl) (m_at o1 p1 hi (o5.in12 hr hc) ?_)
    refine qX10_entry_17 ?_
    refine qX10_entry_21 ?_
    exact k
  · rw [cIf_f (fun e => hno ((ent_iff p2).mpr e))] at k
    refine nX10_entry_7 (by omega) (fun h7 => ?_) (fun h7 => by exfalso; omega)
    refine qX10_entry_20 ?_
    refine qX10_entry_21 ?_
    exact k
theorem m_arrayOf {x y : Int32} (h : mdAt G w D s) (ho : okS s) (k : P (some (.int (spArrayOf s x y))) w) : wpM G (d + 4) yX10_arrayOf (0, 0) [.ref D, .int x, .int y] w P := by
  obtain ⟨⟨v, o1, o2, o3⟩, ⟨st, p1, p2⟩, _⟩ := h
  have hok := p2.ok ho.1
  unfold spArrayOf at k
  refine eX10_arrayOf ?_
  refine qX10_arrayOf_0 ?_
  refine qX10_arrayOf_1 (Nat.le_of_ble_eq_true rfl) (m_isArray (fun i hi hx => ?_) (fun hx => ?_))
  · subst hx
    obtain ⟨e1, e2, e3⟩ := p2 i hi
    have e1 : rR st i = _ := e1
    have e2 : rC st i = _ := e2
    have e3 : ∀ q, q < (lA s i).1 * (lA s i).2.1 → rE st i q = (lA s i).2.2 q := e3
    rw [nN_nI (by omega), cIf_t (inB_nI hi)] at k
    refine nX10_arrayOf_4 (by omega) (fun h4 => ?_) (fun h4 => by exfalso; omega)
    refine qX10_arrayOf_9 ?_
    by_cases hy : inB y 5
    · obtain ⟨j, hj, rfl⟩ := hy
      rcases (show j = 0 ∨ j = 1 ∨ j = 2 ∨ j = 3 ∨ j = 4 by omega) with rfl | rfl | rfl | rfl | rfl
      · rw [cIf_t rfl, ← e1] at k
        refine qX10_arrayOf_10_0 ?_
        refine qX10_arrayOf_44 ?_
        refine qX10_arrayOf_45 ?_
        refine qX10_arrayOf_46 (by assumption) (Nat.le_of_ble_eq_true rfl) (m_rowsOf o1 p1 hi ?_)
        refine qX10_arrayOf_49 ?_
        exact k
      · rw [cIf_f (by decide), cIf_t rfl, ← e2] at k
        refine qX10_arrayOf_10_1 ?_
        refine qX10_arrayOf_50 ?_
        refine qX10_arrayOf_51 ?_
        refine qX10_arrayOf_52 (by assumption) (Nat.le_of_ble_eq_true rfl) (m_columnsOf o1 p1 hi ?_)
        refine qX10_arrayOf_55 ?_
        exact k
      · rw [cIf_f (by decide), cIf_f (by decide), cIf_t rfl, ← mxF_cong e3, ← e1, ← e2] at k
        refine qX10_arrayOf_10_2 ?_
        refine qX10_arrayOf_56 ?_
        refine qX10_arrayOf_57 ?_
        refine qX10_arrayOf_58 (by assumption) (Nat.le_of_ble_eq_true rfl) (m_greatestOf o1 p1 hi (hok i hi) ?_)
        refine qX10_arrayOf_61 ?_
        exact k
      · rw [cIf_f (by decide), cIf_f (by decide), cIf_f (by decide), cIf_t rfl, ← mnF_cong e3, ← e1, ← e2] at k
        refine qX10_arrayOf_10_3 ?_
        refine qX10_arrayOf_62 ?_
        refine qX10_arrayOf_63 ?_
        refine qX10_arrayOf_64 (by assumption) (Nat.le_of_ble_eq_true rfl) (m_leastOf o1 p1 hi (hok i hi) ?_)
        refine qX10_arrayOf_67 ?_
        exact k
      · rw [cIf_f (by decide), cIf_f (by decide), cIf_f (by decide), cIf_f (by decide), cIf_t rfl, ← unlE_cong e3, ← e1, ← e2] at k
        refine qX10_arrayOf_10_4 ?_
        refine qX10_arrayOf_68 ?_
        refine qX10_arrayOf_69 ?_
        refine qX10_arrayOf_70 (by assumption) (Nat.le_of_ble_eq_true rfl) (m_unlike o1 p1 hi (hok i hi) ?_)
        refine qX10_arrayOf_73 ?_
        exact k
    · refine qX10_arrayOf_10_d (tab_d (by decide) hy) ?_
      refine qX10_arrayOf_74 ?_
      refine qX10_arrayOf_76 ?_
      rw [cIf_f (fun z => hy ⟨0, by decide, z⟩), cIf_f (fun z => hy ⟨1, by decide, z⟩), cIf_f (fun z => hy ⟨2, by decide, z⟩), cIf_f (fun z => hy ⟨3, by decide, z⟩), cIf_f (fun z => hy ⟨4, by decide, z⟩)] at k
      exact k
  · rw [cIf_f hx] at k
    refine nX10_arrayOf_4 (by omega) (fun h4 => by exfalso; omega) (fun h4 => ?_)
    refine qX10_arrayOf_7 ?_
    refine qX10_arrayOf_8 ?_
    exact k
theorem m_count {x : Int32} (h : mdAt G w D s) (k : P (some (.int (spCount s x))) w) : wpM G (d + 4) yX10_count (0, 0) [.ref D, .int x] w P := by
  obtain ⟨⟨v, o1, o2, o3⟩, ⟨st, p1, p2⟩, _⟩ := h
  unfold spCount at k
  refine eX10_count ?_
  refine qX10_count_0 ?_
  by_cases hx : inB x 3
  · obtain ⟨i, hi, rfl⟩ := hx
    rcases (show i = 0 ∨ i = 1 ∨ i = 2 by omega) with rfl | rfl | rfl
    · rw [cIf_t rfl] at k
      refine qX10_count_1_0 ?_
      refine qX10_count_28 ?_
      refine qX10_count_29 (by assumption) (Nat.le_of_ble_eq_true rfl) (m_allEntries o1 p1 p2 ?_)
      refine qX10_count_32 ?_
      exact k
    · rw [cIf_f (by decide), cIf_t rfl, ← o3] at k
      refine qX10_count_1_1 ?_
      refine qX10_count_33 ?_
      refine qX10_count_34 (by assumption) ?_
      refine qX10_count_37 ?_
      exact k
    · rw [cIf_f (by decide), cIf_f (by decide), cIf_t rfl, ← o2] at k
      refine qX10_count_1_2 ?_
      refine qX10_count_38 ?_
      refine qX10_count_39 (by assumption) ?_
      refine qX10_count_42 ?_
      exact k
  · refine qX10_count_1_d (tab_d (by decide) hx) ?_
    refine qX10_count_43 ?_
    refine qX10_count_45 ?_
    rw [cIf_f (fun z => hx ⟨0, by decide, z⟩), cIf_f (fun z => hx ⟨1, by decide, z⟩), cIf_f (fun z => hx ⟨2, by decide, z⟩)] at k
    exact k
theorem m_wipe (h : mdAt G w D s) (k : ∀ w', Fr w w' (sD D) → mdAt G w' D (spWipe s) → P (some (.int (nI (ln s)))) w') : wpM G (d + 1) yX10_wipe (0, 0) [.ref D] w P := by
  obtain ⟨⟨v, o1, o2, o3⟩, p2, p3, p4, p5, p6, p7⟩ := h
  obtain ⟨pd, p61, p62⟩ := id p6
  rw [← o3] at k
  refine eX10_wipe ?_
  refine qX10_wipe_0 ?_
  refine qX10_wipe_1 (by assumption) ?_
  refine qX10_wipe_4 ?_
  refine qX10_wipe_5 ?_
  refine qX10_wipe_6 ?_
  refine qX10_wipe_7 (by assumption) ?_
  generalize hw1 : s_up w D _ = w1
  have hF : Fr w w1 (fun q => q = D) := by rw [← hw1]; exact Fr.rf.up rfl
  have m5 : mO w1 D (v.1, 0, v.2.2.1, v.2.2.2.1, v.2.2.2.2.1, v.2.2.2.2.2.1, v.2.2.2.2.2.2) := by rw [← hw1]; exact s_upS
  refine qX10_wipe_10 ?_
  refine qX10_wipe_11 ?_
  exact k w1 (hF.mono (fun q hq => by unfold sD; omega)) ⟨⟨_, m5, o2, rfl⟩, p2.fr hF (by omega), p3.fr hF (by omega), p4.fr hF (by omega), p5.fr hF (by omega), ⟨pd, by rw [hF.2 _ (by omega)]; exact p61, fun j hj => absurd hj (Nat.not_lt_zero j)⟩, p7.fr hF (fun q a1 a2 => by omega)⟩
theorem m_undo (h : mdAt G w D s) (ho : okS s) (k : ∀ w', Fr w w' (sD D) → mdAt G w' D (spUndo s).2 → P (some (.int (spUndo s).1)) w') : wpM G (d + 2) yX10_undo (0, 0) [.ref D] w P := by
  obtain ⟨⟨v, o1, o2, o3⟩, ⟨st, p1, p2⟩, ⟨hi, p3, p4⟩, p5, p6, p7, p8⟩ := id h
  have hl := ho.2.1
  unfold spUndo at k
  refine eX10_undo ?_
  refine qX10_undo_0 ?_
  refine qX10_undo_1 (by assumption) ?_
  rw [o2]
  refine nX10_undo_4 (by omega) (fun h4 => ?_) (fun h4 => ?_)
  · rw [if_neg h4] at k
    refine qX10_undo_10 ?_
    refine qX10_undo_11 rfl ?_
    refine qX10_undo_12 (by assumption) ?_
    rw [o2]
    refine qX10_undo_15 ?_
    first | refine nX10_undo_16 (by omega) ?_ | refine qX10_undo_16 ?_
    refine qX10_undo_17 (by assumption) ?_
    generalize hw1 : s_up w D _ = w1
    have hF : Fr w w1 (fun q => q = D) := by rw [← hw1]; exact Fr.rf.up rfl
    have m5 : mO w1 D ((lH s).length - 1, v.2.1, v.2.2.1, v.2.2.2.1, v.2.2.2.2.1, v.2.2.2.2.2.1, v.2.2.2.2.2.2) := by rw [← hw1]; exact s_upS
    have q1 : w1.1 (D + 1) = aN G 42 st := by rw [hF.2 _ (by omega)]; exact p1
    have q3 : w1.1 (D + 2) = aN G 252 hi := by rw [hF.2 _ (by omega)]; exact p3
    refine qX10_undo_20 ?_
    refine qX10_undo_21 (by assumption) ?_
    refine qX10_undo_24 ?_
    refine qX10_undo_25 (by assumption) ?_
    refine qX10_undo_28 ?_
    first | refine nX10_undo_30 ?_ | refine qX10_undo_30 ?_
    refine qX10_undo_31 ?_
    refine qX10_undo_32 (by assumption) ?_
    refine qX10_undo_35 ?_
    refine qX10_undo_36 (Nat.le_of_ble_eq_true rfl) (m_moves q3 q1 (by omega) (by omega) (by decide) (by decide) (by decide) (fun w2 fc hF2 q4 he => ?_))
    have m6 : mO w2 D _ := (hF2.2 D (by omega)).trans m5
    refine qX10_undo_39 ?_
    refine qX10_undo_40 (by assumption) ?_
    refine qX10_undo_43 ?_
    have hF3 : Fr w w2 (fun q => q = D ∨ q = D + 1) := (hF.mono (fun q hq => Or.inl hq)).tr hF2 (fun q hq => Or.inr hq)
    refine k w2 (hF3.mono (fun q hq => by unfold sD; omega)) ⟨⟨_, m6, ?_, o3⟩, ⟨fc, q4, ?_⟩, ⟨hi, by rw [hF3.2 _ (by omega)]; exact p3, fun j hj => ?_⟩, p5.fr hF3 (by omega), p6.fr hF3 (by omega), p7.fr hF3 (by omega), p8.fr hF3 (fun q a1 a2 => by omega)⟩
    · exact List.length_tail.symm
    · refine stV.cg (p4 0 (by omega)) (okH ho (by omega)) (fun q hq => ?_)
      show fc q = hi (42 * ((lH s).length - 1 - 0) + q)
      rw [he, if_pos (by omega)]
      congr 1
      show ((lH s).length - 1) * 42 + (q - 0) = 42 * ((lH s).length - 1 - 0) + q
      omega
    · have hj : j < (lH s).tail.length := hj
      show stV (fun k => hi (42 * ((lH s).tail.length - 1 - j) + k)) ((lH s).tail.getD j dfT)
      rw [List.length_tail] at hj ⊢
      have e3 : (lH s).tail.getD j dfT = (lH s).getD (j + 1) dfT := by
        rw [List.getD_eq_getElem?_getD, List.getD_eq_getElem?_getD, List.getElem?_tail]
      rw [e3]
      have := p4 (j + 1) (by omega)
      rw [show (lH s).length - 1 - 1 - j = (lH s).length - 1 - (j + 1) by omega]
      exact this
  · rw [if_pos h4] at k
    refine qX10_undo_7 ?_
    refine qX10_undo_9 ?_
    exact k w Fr.rf h
theorem m_save {x : Int32} (h : mdAt G w D s) (ho : okS s) (k : ∀ w', Fr w w' (sD D) → mdAt G w' D (spSave s x).2 → P (some (.int (spSave s x).1)) w') : wpM G (d + 4) yX10_save (0, 0) [.ref D, .int x] w P := by
  obtain ⟨⟨v, o1, o2, o3⟩, ⟨st, p1, p2⟩, p3, ⟨sl, p4, p5⟩, ⟨sv, p6, p7⟩, p8, p9⟩ := id h
  unfold spSave at k
  refine eX10_save ?_
  refine qX10_save_0 ?_
  refine qX10_save_1 ?_
  refine qX10_save_2 ?_
  refine qX10_save_3 (Nat.le_of_ble_eq_true rfl) (m_within0 (by decide) (fun j hj hx => ?_) (fun hx => ?_))
  · subst hx
    have hj : j < 2 := hj
    rw [cIf_t (inB_nI hj), nN_nI (by omega)] at k
    refine nX10_save_6 (by omega) (fun h6 => ?_) (fun h6 => by exfalso; omega)
    refine qX10_save_12 ?_
    refine qX10_save_13 (by assumption) ?_
    refine qX10_save_16 ?_
    refine qX10_save_17 ?_
    refine qX10_save_18 (by assumption) ?_
    refine qX10_save_21 ?_
    refine qX10_save_23 ?_
    first | refine nX10_save_24 ?_ | refine qX10_save_24 ?_
    refine qX10_save_25 (Nat.le_of_ble_eq_true rfl) (m_moves p1 p4 (by omega) (by decide) (by omega) (by decide) (by decide) (fun w1 fc hF1 q4 he => ?_))
    have m1 : mO w1 D v := (hF1.2 D (by omega)).trans o1
    have q6 : w1.1 (D + 4) = aN G 2 sv := by rw [hF1.2 _ (by omega)]; exact p6
    refine qX10_save_28 ?_
    refine qX10_save_29 (by assumption) ?_
    refine qX10_save_32 ?_
    refine qX10_save_33 ?_
    first | refine fX10_save_34 (by assumption) (by omega) (by decide) ?_ | refine nX10_save_34 (by assumption) (by omega) (by decide) ?_
    generalize hw2 : s_up w1 (D + 4) _ = w2
    have hF2 : Fr w w2 (fun q => q = D + 3 ∨ q = D + 4) := by rw [← hw2]; exact (hF1.mono (fun q hq => Or.inl hq)).up (Or.inr rfl)
    have m2 : mO w2 D v := (hF2.2 D (by omega)).trans o1
    have q1 : w2.1 (D + 1) = aN G 42 st := by rw [hF2.2 _ (by omega)]; exact p1
    have q7 : w2.1 (D + 4) = aN G 2 (updN sv j 1) := by rw [← hw2]; exact s_upS
    refine qX10_save_35 ?_
    refine qX10_save_36 (by assumption) (Nat.le_of_ble_eq_true rfl) (m_allEntries m2 q1 p2 ?_)
    refine qX10_save_39 ?_
    refine k w2 (hF2.mono (fun q hq => by unfold sD; omega)) ⟨⟨v, m2, o2, o3⟩, ⟨st, q1, p2⟩, p3.fr hF2 (by omega), ⟨fc, by rw [← hw2, s_upN (by omega)]; exact q4, fun i hi hv => ?_⟩, ⟨_, q7, fun i hi => ?_⟩, p8.fr hF2 (by omega), p9.fr hF2 (fun q a1 a2 => by omega)⟩
    · show stV _ (if i = j then lA s else lS s i)
      have hv : (if i = j then true else lv s i) = true := hv
      by_cases hij : i = j
      · subst hij
        rw [if_pos rfl]
        refine stV.cg p2 ho.1 (fun q hq => ?_)
        show fc (42 * i + q) = st q
        rw [he, if_pos (by omega)]
        congr 1
        omega
      · rw [if_neg hij] at hv
        rw [if_neg hij]
        refine stV.cg (p5 i hi hv) (ho.2.2.2.1 i hi hv) (fun q hq => ?_)
        show fc (42 * i + q) = sl (42 * i + q)
        rw [he, if_neg (by omega)]
    · show updN sv j 1 i = if (if i = j then true else lv s i) = true then 1 else 0
      by_cases hij : i = j
      · subst hij
        rw [updN_s, if_pos rfl, if_pos rfl]
      · rw [updN_n hij, if_neg hij]
        exact p7 i hi
  · rw [cIf_f hx] at k
    refine nX10_save_6 (by omega) (fun h6 => by exfalso; omega) (fun h6 => ?_)
    refine qX10_save_9 ?_
    refine qX10_save_11 ?_
    exact k w Fr.rf h
theorem m_restore {x : Int32} (h : mdAt G w D s) (ho : okS s) (k : ∀ w', Fr w w' (sD D) → mdAt G w' D (spRestore s x).2 → P (some (.int (spRestore s x).1)) w') : wpM G (d + 4) yX10_restore (0, 0) [.ref D, .int x] w P := by
  obtain ⟨⟨v, o1, o2, o3⟩, _, _, _, ⟨sv, p6, p7⟩, _⟩ := id h
  unfold spRestore at k
  refine eX10_restore ?_
  refine qX10_restore_0 ?_
  refine qX10_restore_1 ?_
  refine qX10_restore_2 ?_
  refine qX10_restore_3 (Nat.le_of_ble_eq_true rfl) (m_within0 (by decide) (fun j hj hx => ?_) (fun hx => ?_))
  · subst hx
    have hj : j < 2 := hj
    have hsv := p7 j hj
    rw [cIf_t (inB_nI hj), nN_nI (by omega)] at k
    refine nX10_restore_6 (by omega) (fun h6 => ?_) (fun h6 => by exfalso; omega)
    refine qX10_restore_12 ?_
    refine qX10_restore_13 (by assumption) ?_
    refine qX10_restore_16 ?_
    first | refine fX10_restore_17 (by assumption) (by omega) (by decide) ?_ | refine nX10_restore_17 (by assumption) (by omega) (by decide) ?_
    cases hv : lv s j with
    | false =>
      rw [hv, if_neg (by decide)] at k
      rw [hv, if_neg (by decide)] at hsv
      refine nX10_restore_18 (by omega) (fun h18 => by exfalso; omega) (fun h18 => ?_)
      refine qX10_restore_21 ?_
      refine qX10_restore_23 ?_
      exact k w Fr.rf h
    | true =>
      rw [hv, if_pos rfl] at k
      rw [hv, if_pos rfl] at hsv
      refine nX10_restore_18 (by omega) (fun h18 => ?_) (fun h18 => by exfalso; omega)
      refine qX10_restore_24 ?_
      refine qX10_restore_25 (by assumption) (Nat.le_of_ble_eq_true rfl) (m_record h ho (fun w1 hF1 hm => ?_))
      obtain ⟨⟨v1, o1, o2, o3⟩, ⟨st, p1, p2⟩, p3, ⟨sl, p4, p5⟩, p6, p8, p9⟩ := hm
      refine qX10_restore_28 ?_
      refine qX10_restore_29 (by assumption) ?_
      refine qX10_restore_32 ?_
      refine qX10_restore_34 ?_
      first | refine nX10_restore_35 ?_ | refine qX10_restore_35 ?_
      refine qX10_restore_36 ?_
      refine qX10_restore_37 (by assumption) ?_
      refine qX10_restore_40 ?_
      refine qX10_restore_41 (Nat.le_of_ble_eq_true rfl) (m_moves p4 p1 (by omega) (by omega) (by decide) (by decide) (by decide) (fun w2 fc hF2 q4 he => ?_))
      have m2 : mO w2 D v1 := (hF2.2 D (by omega)).trans o1
      have ok1 : okT (lS s j) := ho.2.2.2.1 j hj hv
      have hV : stV fc (lS s j) := stV.cg (p5 j hj hv) ok1 (fun q hq => by
        show fc q = sl (42 * j + q)
        rw [he, if_pos (by omega)]
        congr 1)
      refine qX10_restore_44 ?_
      refine qX10_restore_45 (by assumption) (Nat.le_of_ble_eq_true rfl) (m_allEntries m2 q4 hV ?_)
      refine qX10_restore_48 ?_
      exact k w2 ((hF1.mono (fun q hq => by unfold sD; omega)).tr hF2 (fun q hq => by unfold sD; omega)) ⟨⟨v1, m2, o2, o3⟩, ⟨fc, q4, hV⟩, p3.fr hF2 (by omega), ⟨sl, by rw [hF2.2 _ (by omega)]; exact p4, p5⟩, p6.fr hF2 (by omega), p8.fr hF2 (by omega), p9.fr hF2 (fun q a1 a2 => by omega)⟩
  · rw [cIf_f hx] at k
    refine nX10_restore_6 (by omega) (fun h6 => by exfalso; omega) (fun h6 => ?_)
    refine qX10_restore_9 ?_
    refine qX10_restore_11 ?_
    exact k w Fr.rf h
theorem m_set {x y z u : Int32} (h : mdAt G w D s) (ho : okS s) (k : ∀ w', Fr w w' (sD D) → mdAt G w' D (spSet s x y z u).2 → P (some (.int (spSet s x y z u).1)) w') : wpM G (d + 4) yX10_set (0, 0) [.ref D, .int x, .int y, .int z, .int u] w P := by
  obtain ⟨⟨v, o1, o2, o3⟩, ⟨st, p1, p2⟩, _⟩ := id h
  have hok := p2.ok ho.1
  unfold spSet at k
  refine eX10_set ?_
  refine qX10_set_0 ?_
  refine qX10_set_1 ?_
  refine qX10_set_2 ?_
  refine qX10_set_3 ?_
  refine qX10_set_4 (by assumption) (Nat.le_of_ble_eq_true rfl) (m_isEntry o1 p1 hok (fun i r c hi hr hc hx hy hz => ?_) (fun hno => ?_))
  · subst hx
    subst hy
    subst hz
    obtain ⟨e1, e2, e3⟩ := p2 i hi
    have e1 : rR st i = _ := e1
    have e2 : rC st i = _ := e2
    have g5 := (ho.1 i hi).1
    rw [e1] at hr
    rw [e2] at hc
    have b1 := g5.2.1
    have b2 := g5.2.2.2.1
    rw [nN_nI (by omega), nN_nI (by omega), nN_nI (by omega), cIf_t ⟨inB_nI hi, inB_nI hr, inB_nI hc⟩] at k
    refine nX10_set_7 (by omega) (fun h7 => ?_) (fun h7 => by exfalso; omega)
    refine qX10_set_12 ?_
    refine qX10_set_14 ?_
    refine qX10_set_15 ?_
    refine qX10_set_18 (Nat.le_of_ble_eq_true rfl) (m_within0 (by decide) (fun u hu hq => ?_) (fun hno => ?_))
    · subst hq
      have hu : u < 1000 := hu
      rw [cIf_t (inB_nI hu), nN_nI (by omega)] at k
      refine nX10_set_21 (by omega) (fun h21 => ?_) (fun h21 => by exfalso; omega)
      refine qX10_set_27 ?_
      refine qX10_set_28 (by assumption) (Nat.le_of_ble_eq_true rfl) (m_record h ho (fun w1 hF1 hm => ?_))
      obtain ⟨⟨v1, o1, o2, o3⟩, ⟨st1, p1, p2⟩, p3, p4, p5, p6, p7⟩ := hm
      obtain ⟨e1, e2, e3⟩ := p2 i hi
      have e1 : rR st1 i = (lA s i).1 := e1
      have e2 : rC st1 i = (lA s i).2.1 := e2
      have e3 : ∀ q, q < (lA s i).1 * (lA s i).2.1 → rE st1 i q = (lA s i).2.2 q := e3
      have hin := g5.in hr hc
      have hin12 := g5.in12 hr hc
      rw [← e2] at hin12
      refine qX10_set_31 ?_
      refine qX10_set_32 ?_
      refine qX10_set_33 ?_
      refine qX10_set_34 ?_
      refine qX10_set_35 (by assumption) (Nat.le_of_ble_eq_true rfl) (m_at o1 p1 hi hin12 ?_)
      refine qX10_set_38 ?_
      refine qX10_set_40 ?_
      refine qX10_set_41 ?_
      refine qX10_set_42 ?_
      refine qX10_set_43 ?_
      refine qX10_set_44 ?_
      refine qX10_set_46 (by assumption) (Nat.le_of_ble_eq_true rfl) (m_lay o1 p1 hi hin12 ?_)
      generalize hw2 : s_up w1 (D + 1) _ = w2
      have hF2 : Fr w1 w2 (fun q => q = D + 1) := by rw [← hw2]; exact Fr.rf.up rfl
      have q1 : w2.1 (D + 1) = aN G 42 (updN st1 (14 * i + 2 + (r * rC st1 i + c)) u) := by rw [← hw2]; exact s_upS
      have m2 : mO w2 D v1 := (hF2.2 D (by omega)).trans o1
      refine qX10_set_49 ?_
      refine qX10_set_51 ?_
      rw [e2] at q1 hin12 ⊢
      rw [e3 _ hin]
      refine k w2 ((hF1.mono (fun q hq => by unfold sD; omega)).tr hF2 (fun q hq => by unfold sD; omega)) ⟨⟨v1, m2, o2, o3⟩, ⟨_, q1, ?_⟩, p3.fr hF2 (by omega), p4.fr hF2 (by omega), p5.fr hF2 (by omega), p6.fr hF2 (by omega), p7.fr hF2 (fun q a1 a2 => by omega)⟩
      refine stV.ent p2 ho.1 hi (fun q hq => by rw [updN_n (by omega)]) (fun q hq => ?_)
      show updN st1 (14 * i + 2 + (r * (lA s i).2.1 + c)) u (14 * i + 2 + q) = updN (lA s i).2.2 (r * (lA s i).2.1 + c) u q
      by_cases hqq : q = r * (lA s i).2.1 + c
      · subst hqq
        rw [updN_s, updN_s]
      · rw [updN_n (by omega), updN_n hqq]
        exact e3 q hq
    · rw [cIf_f hno] at k
      refine nX10_set_21 (by omega) (fun h21 => by exfalso; omega) (fun h21 => ?_)
      refine qX10_set_24 ?_
      refine qX10_set_26 ?_
      exact k w Fr.rf h
  · rw [cIf_f (fun e => hno ((ent_iff p2).mpr e))] at k
    refine nX10_set_7 (by omega) (fun h7 => by exfalso; omega) (fun h7 => ?_)
    refine qX10_set_10 ?_
    refine qX10_set_11 ?_
    exact k w Fr.rf h
end REF3
