/-! the reference: what its object shows; rows moved, states recorded -/
def stP (G : sG) (w : sW) (p : Nat) (t : Nat → GV) : Prop := ∃ st, w.1 p = aN G 42 st ∧ stV st t
def hiV (hi : Nat → Nat) (L : List (Nat → GV)) : Prop := ∀ j, j < L.length → stV (fun k => hi (42 * (L.length - 1 - j) + k)) (L.getD j dfT)
def hiP (G : sG) (w : sW) (p : Nat) (L : List (Nat → GV)) : Prop := ∃ hi, w.1 p = aN G 252 hi ∧ hiV hi L
def slV (sl : Nat → Nat) (T : Nat → Nat → GV) (v : Nat → Bool) : Prop := ∀ j, j < 2 → v j = true → stV (fun k => sl (42 * j + k)) (T j)
def slP (G : sG) (w : sW) (p : Nat) (T : Nat → Nat → GV) (v : Nat → Bool) : Prop := ∃ sl, w.1 p = aN G 84 sl ∧ slV sl T v
def saP (G : sG) (w : sW) (p : Nat) (v : Nat → Bool) : Prop := ∃ sv, w.1 p = aN G 2 sv ∧ ∀ j, j < 2 → sv j = if v j = true then 1 else 0
def pdP (G : sG) (w : sW) (p n : Nat) (c : Nat → Nat) : Prop := ∃ pd, w.1 p = aN G 80 pd ∧ ∀ k, k < n → pd k = c k
/-- what is only used within a call -/
def scM (G : sG) (w : sW) (D : Nat) : Prop := (∃ f, w.1 (D + 6) = aN G 48 f) ∧ (∃ f, w.1 (D + 7) = aN G 48 f) ∧ (∃ f, w.1 (D + 8) = aN G 4 f) ∧ (∃ f, w.1 (D + 9) = aN G 4096 f) ∧ (∃ f, w.1 (D + 10) = aN G 4096 f) ∧ (∃ f, w.1 (D + 11) = aI G 16 f) ∧ ∃ f, w.1 (D + 12) = aN G 12 f
def mdO (w : sW) (D n m : Nat) : Prop := ∃ v : M7, mO w D v ∧ v.1 = n ∧ v.2.1 = m
def mdAt (G : sG) (w : sW) (D : Nat) (s : xS) : Prop := mdO w D (lH s).length (ln s) ∧ stP G w (D + 1) (lA s) ∧ hiP G w (D + 2) (lH s) ∧ slP G w (D + 3) (lS s) (lv s) ∧ saP G w (D + 4) (lv s) ∧ pdP G w (D + 5) (ln s) (lc s) ∧ scM G w D
/-- the cells of the reference -/
def sD (D : Nat) : Nat → Prop := fun q => D ≤ q ∧ q < D + 13
theorem stV.cg {st st' : Nat → Nat} {t : Nat → GV} (h : stV st t) (ht : okT t) (he : ∀ k, k < 42 → st' k = st k) : stV st' t := fun i hi => by
  obtain ⟨h1, h2, h3⟩ := h i hi
  have hsz := (ht i hi).1.2.2.2.2
  refine ⟨?_, ?_, fun k hk => ?_⟩
  · exact (he (14 * i + 0) (by omega)).trans h1
  · exact (he (14 * i + 1) (by omega)).trans h2
  · exact (he (14 * i + 2 + k) (by omega)).trans (h3 k hk)
theorem stV.set {st st' : Nat → Nat} {t : Nat → GV} {i : Nat} {v : GV} (h : stV st t) (ht : okT t) (hi : i < 3) (he : ∀ x, x < 14 * i ∨ 14 * i + 14 ≤ x → st' x = st x) (hv : eqA (vwA st' i) v) : stV st' (setA t i v) := fun j hj => by
  unfold setA
  by_cases hji : j = i
  · subst hji
    rw [if_pos rfl]
    exact hv
  · rw [if_neg hji]
    obtain ⟨h1, h2, h3⟩ := h j hj
    have hsz := (ht j hj).1.2.2.2.2
    refine ⟨?_, ?_, fun k hk => ?_⟩
    · exact (he (14 * j + 0) (by omega)).trans h1
    · exact (he (14 * j + 1) (by omega)).trans h2
    · exact (he (14 * j + 2 + k) (by omega)).trans (h3 k hk)
/-- the entries of one array are changed -/
theorem stV.ent {st st' : Nat → Nat} {t : Nat → GV} {i : Nat} {a : Nat → Nat} (h : stV st t) (ht : okT t) (hi : i < 3) (he : ∀ x, x < 14 * i + 2 ∨ 14 * i + 14 ≤ x → st' x = st x) (hv : ∀ k, k < (t i).1 * (t i).2.1 → rE st' i k = a k) : stV st' (setA t i ((t i).1, (t i).2.1, a)) := by
  refine h.set ht hi (fun x hx => he x (by omega)) ?_
  obtain ⟨h1, h2, h3⟩ := h i hi
  exact ⟨(he (14 * i + 0) (by omega)).trans h1, (he (14 * i + 1) (by omega)).trans h2, hv⟩
theorem stP.fr {G : sG} {w w' : sW} {S : Nat → Prop} {p : Nat} {t : Nat → GV} (h : stP G w p t) (hF : Fr w w' S) (hp : ¬ S p) : stP G w' p t := by
  obtain ⟨f, h1, h2⟩ := h
  exact ⟨f, by rw [hF.2 _ hp]; exact h1, h2⟩
theorem hiP.fr {G : sG} {w w' : sW} {S : Nat → Prop} {p : Nat} {L : List (Nat → GV)} (h : hiP G w p L) (hF : Fr w w' S) (hp : ¬ S p) : hiP G w' p L := by
  obtain ⟨f, h1, h2⟩ := h
  exact ⟨f, by rw [hF.2 _ hp]; exact h1, h2⟩
theorem slP.fr {G : sG} {w w' : sW} {S : Nat → Prop} {p : Nat} {T : Nat → Nat → GV} {v : Nat → Bool} (h : slP G w p T v) (hF : Fr w w' S) (hp : ¬ S p) : slP G w' p T v := by
  obtain ⟨f, h1, h2⟩ := h
  exact ⟨f, by rw [hF.2 _ hp]; exact h1, h2⟩
theorem saP.fr {G : sG} {w w' : sW} {S : Nat → Prop} {p : Nat} {v : Nat → Bool} (h : saP G w p v) (hF : Fr w w' S) (hp : ¬ S p) : saP G w' p v := by
  obtain ⟨f, h1, h2⟩ := h
  exact ⟨f, by rw [hF.2 _ hp]; exact h1, h2⟩
theorem pdP.fr {G : sG} {w w' : sW} {S : Nat → Prop} {p n : Nat} {c : Nat → Nat} (h : pdP G w p n c) (hF : Fr w w' S) (hp : ¬ S p) : pdP G w' p n c := by
  obtain ⟨f, h1, h2⟩ := h
  exact ⟨f, by rw [hF.2 _ hp]; exact h1, h2⟩
theorem scM.fr {G : sG} {w w' : sW} {S : Nat → Prop} {D : Nat} (h : scM G w D) (hF : Fr w w' S) (hd : ∀ q, D + 6 ≤ q → q < D + 13 → ¬ S q) : scM G w' D := by
  obtain ⟨⟨f1, h1⟩, ⟨f2, h2⟩, ⟨f3, h3⟩, ⟨f4, h4⟩, ⟨f5, h5⟩, ⟨f6, h6⟩, f7, h7⟩ := h
  refine ⟨⟨f1, ?_⟩, ⟨f2, ?_⟩, ⟨f3, ?_⟩, ⟨f4, ?_⟩, ⟨f5, ?_⟩, ⟨f6, ?_⟩, f7, ?_⟩ <;> rw [hF.2 _ (hd _ (by omega) (by omega))] <;> assumption
theorem mdO.fr {w w' : sW} {S : Nat → Prop} {D n m : Nat} (h : mdO w D n m) (hF : Fr w w' S) (hd : ¬ S D) : mdO w' D n m := by
  obtain ⟨v, h1, h2⟩ := h
  exact ⟨v, (hF.2 _ hd).trans h1, h2⟩
/-- only the cells of use within a call have changed -/
theorem mdAt.scr {G : sG} {w w' : sW} {D : Nat} {s : xS} (h : mdAt G w D s) (hF : Fr w w' (fun q => q = D ∨ (D + 6 ≤ q ∧ q < D + 13))) (ho : mdO w' D (lH s).length (ln s)) (hs : scM G w' D) : mdAt G w' D s := by
  obtain ⟨h1, h2, h3, h4, h5, h6, h7⟩ := h
  exact ⟨ho, h2.fr hF (by omega), h3.fr hF (by omega), h4.fr hF (by omega), h5.fr hF (by omega), h6.fr hF (by omega), hs⟩
section REF2
variable {G : sG} {d D : Nat} {P : sQ} {w : sW} {v : M7} {st : Nat → Nat} {s : xS}
theorem m_moves {p q n1 n2 f t : Nat} {fa fb : Nat → Nat} (hp : w.1 p = aN G n1 fa) (hq : w.1 q = aN G n2 fb) (hpq : p ≠ q) (hf : f + 42 ≤ n1) (ht : t + 42 ≤ n2) (h1 : n1 < 1000) (h2 : n2 < 1000) (k : ∀ w' fc, Fr w w' (fun x => x = q) → w'.1 q = aN G n2 fc → (∀ j, fc j = if t ≤ j ∧ j < t + 42 then fa (f + (j - t)) else fb j) → P none w') : wpM G (d + 1) yX10_moves (0, 0) [.ref p, .int (nI f), .ref q, .int (nI t)] w P := by
  refine eX10_moves ?_
  refine qX10_moves_0 ?_
  refine qX10_moves_1 ?_
  have L : ∀ n i (w' : sW) (fc : Nat → Nat), i + n = 42 → Fr w w' (fun x => x = q) → w'.1 q = aN G n2 fc → (∀ j, fc j = if t ≤ j ∧ j < t + i then fa (f + (j - t)) else fb j) → wp G d mX10_moves P 3 [some (.ref p), some (.int (nI f)), some (.ref q), some (.int (nI t)), some (.int (nI i))] [] w' (0, 0) := by
    intro n
    induction n with
    | zero =>
      intro i w' fc hi hF hc he
      refine qX10_moves_3 ?_
      refine qX10_moves_5 ?_
      refine nX10_moves_7 (by omega) (by omega) (fun h7 => ?_) (fun h7 => by exfalso; omega)
      refine qX10_moves_28 ?_
      rw [show i = 42 by omega] at he
      exact k w' fc hF hc he
    | succ n ih =>
      intro i w' fc hi hF hc he
      have hp2 : w'.1 p = aN G n1 fa := by rw [hF.2 _ hpq]; exact hp
      refine qX10_moves_3 ?_
      refine qX10_moves_5 ?_
      refine nX10_moves_7 (by omega) (by omega) (fun h7 => by exfalso; omega) (fun h7 => ?_)
      refine qX10_moves_10 ?_
      refine qX10_moves_11 ?_
      refine qX10_moves_12 ?_
      first | refine nX10_moves_14 ?_ | refine qX10_moves_14 ?_
      refine qX10_moves_15 ?_
      refine qX10_moves_16 ?_
      refine qX10_moves_17 ?_
      first | refine nX10_moves_19 ?_ | refine qX10_moves_19 ?_
      refine fX10_moves_20 hp2 (by omega) (by omega) ?_
      refine fX10_moves_21 hc (by omega) (by omega) ?_
      first | refine nX10_moves_22 ?_ | refine qX10_moves_22 ?_
      refine qX10_moves_25 ?_
      refine ih (i + 1) _ (updN fc (t + i) (fa (f + i))) (by omega) (hF.up rfl) s_upS (fun j => ?_)
      by_cases hj : j = t + i
      · subst hj
        rw [updN_s, if_pos ⟨by omega, by omega⟩, show f + (t + i - t) = f + i by omega]
      · rw [updN_n hj, he j]
        by_cases hj2 : t ≤ j ∧ j < t + i
        · rw [if_pos hj2, if_pos ⟨hj2.1, by omega⟩]
        · rw [if_neg hj2, if_neg (by omega)]
  exact L 42 0 w fb rfl Fr.rf hq (fun j => by rw [if_neg (by omega)])
theorem m_recordV (h : mdAt G w D s) (ho : okS s) (k : ∀ w' (v v' : M7), mO w D v → mO w' D v' → v'.2 = v.2 → Fr w w' (fun q => q = D ∨ q = D + 2) → mdAt G w' D (remS s) → P none w') : wpM G (d + 2) yX10_record (0, 0) [.ref D] w P := by
  obtain ⟨⟨v, o1, o2, o3⟩, ⟨st, p1, p2⟩, ⟨hi, p3, p4⟩, p5, p6, p7, p8⟩ := h
  have hl := ho.2.1
  have o1' := o1
  refine eX10_record ?_
  refine qX10_record_0 ?_
  refine qX10_record_1 (by assumption) ?_
  refine qX10_record_4 ?_
  rw [o2]
  have F2 : ∀ (w1 : sW) (hi1 : Nat → Nat) (v1 : M7) (n : Nat), Fr w w1 (fun q => q = D ∨ q = D + 2) → mO w1 D v1 → v1.2 = v.2 → v1.1 = n → v1.2.1 = ln s → n < 6 → n + 1 = ((lA s :: lH s).take 6).length → w1.1 (D + 2) = aN G 252 hi1 → (∀ j, j < n → stV (fun k => hi1 (42 * (n - 1 - j) + k)) ((lH s).getD j dfT)) → ∀ l1, wp G (d + 1) mX10_record P 49 [some (.ref D), l1] [] w1 (0, 0) := by
    intro w1 hi1 v1 n hF m1 mv m2 m3 hn hlen q1 q2 l1
    have q3 : w1.1 (D + 1) = aN G 42 st := by rw [hF.2 _ (by omega)]; exact p1
    refine qX10_record_49 ?_
    refine qX10_record_50 (by assumption) ?_
    refine qX10_record_53 ?_
    refine qX10_record_54 ?_
    refine qX10_record_55 (by assumption) ?_
    refine qX10_record_58 ?_
    refine qX10_record_59 (by assumption) ?_
    refine qX10_record_62 ?_
    first | refine nX10_record_64 ?_ | refine qX10_record_64 ?_
    rw [m2]
    refine qX10_record_65 (Nat.le_of_ble_eq_true rfl) (m_moves q3 q1 (by omega) (by decide) (by omega) (by decide) (by decide) (fun w2 fc hF2 q4 he => ?_))
    have m4 : mO w2 D v1 := (hF2.2 D (by omega)).trans m1
    refine qX10_record_68 ?_
    refine qX10_record_69 rfl ?_
    refine qX10_record_70 (by assumption) ?_
    refine qX10_record_73 ?_
    first | refine nX10_record_74 ?_ | refine qX10_record_74 ?_
    rw [m2]
    refine qX10_record_75 (by assumption) ?_
    generalize hw3 : s_up w2 D _ = w3
    have hF3 : Fr w2 w3 (fun q => q = D) := by rw [← hw3]; exact Fr.rf.up rfl
    have m5 : mO w3 D (n + 1, v1.2.1, v1.2.2.1, v1.2.2.2.1, v1.2.2.2.2.1, v1.2.2.2.2.2.1, v1.2.2.2.2.2.2) := by rw [← hw3]; exact s_upS
    refine qX10_record_78 ?_
    have hF4 : Fr w w3 (fun q => q = D ∨ q = D + 2) := (hF.tr hF2 (fun q hq => Or.inr hq)).tr hF3 (fun q hq => Or.inl hq)
    refine k w3 v _ o1' m5 mv hF4 ⟨⟨_, m5, hlen, m3⟩, ⟨st, by rw [hF4.2 _ (by omega)]; exact p1, p2⟩, ⟨fc, by rw [hF3.2 _ (by omega)]; exact q4, fun j hj => ?_⟩, p5.fr hF4 (by omega), p6.fr hF4 (by omega), p7.fr hF4 (by omega), p8.fr hF4 (fun q a1 a2 => by omega)⟩
    have hj : j < ((lA s :: lH s).take 6).length := hj
    show stV (fun k => fc (42 * (((lA s :: lH s).take 6).length - 1 - j) + k)) (((lA s :: lH s).take 6).getD j dfT)
    rw [← hlen] at hj ⊢
    cases j with
    | zero =>
      refine stV.cg (st := st) p2 ho.1 (fun q hq => ?_)
      show fc (42 * (n + 1 - 1 - 0) + q) = st q
      rw [he, if_pos ⟨by omega, by omega⟩]
      congr 1
      omega
    | succ j =>
      have e : ((lA s :: lH s).take 6).getD (j + 1) dfT = (lH s).getD j dfT := by
        rw [List.getD_eq_getElem?_getD, List.getD_eq_getElem?_getD, List.getElem?_take_of_lt (by omega), List.getElem?_cons_succ]
      rw [e]
      have hjl : j < (lH s).length := by
        rw [List.length_take, List.length_cons] at hlen
        omega
      refine stV.cg (q2 j (by omega)) (okH ho hjl) (fun q hq => ?_)
      show fc (42 * (n + 1 - 1 - (j + 1)) + q) = hi1 (42 * (n - 1 - j) + q)
      rw [he, if_neg (by omega)]
      congr 1
      omega
  refine nX10_record_6 (by omega) (by omega) (fun h6 => ?_) (fun h6 => ?_)
  · exact F2 w hi v (lH s).length Fr.rf o1 rfl o2 o3 (by omega) (by rw [List.length_take, List.length_cons]; omega) p3 p4 none
  · refine qX10_record_9 ?_
    refine qX10_record_10 ?_
    have L : ∀ n i (w' : sW) (fc : Nat → Nat), i + n = 210 → Fr w w' (fun x => x = D + 2) → w'.1 (D + 2) = aN G 252 fc → (∀ j, fc j = if j < i then hi (j + 42) else hi j) → wp G (d + 1) mX10_record P 11 [some (.ref D), some (.int (nI i))] [] w' (0, 0) := by
      intro n
      induction n with
      | zero =>
        intro i w' fc hii hF hc he
        have m1 : mO w' D v := (hF.2 D (by omega)).trans o1
        refine qX10_record_11 ?_
        refine qX10_record_12 ?_
        refine nX10_record_15 (by omega) (by omega) (fun h15 => ?_) (fun h15 => by exfalso; omega)
        refine qX10_record_39 ?_
        refine qX10_record_40 rfl ?_
        refine qX10_record_41 (by assumption) ?_
        rw [o2, h6]
        refine qX10_record_44 ?_
        first | refine nX10_record_45 (by omega) ?_ | refine qX10_record_45 ?_
        refine qX10_record_46 (by assumption) ?_
        generalize hw3 : s_up w' D _ = w3
        have hF3 : Fr w' w3 (fun q => q = D) := by rw [← hw3]; exact Fr.rf.up rfl
        have m5 : mO w3 D (5, v.2.1, v.2.2.1, v.2.2.2.1, v.2.2.2.2.1, v.2.2.2.2.2.1, v.2.2.2.2.2.2) := by rw [← hw3]; exact s_upS
        refine F2 w3 fc _ 5 ((hF.mono (fun q hq => Or.inr hq)).tr hF3 (fun q hq => Or.inl hq)) m5 rfl rfl o3 (by decide) (by rw [List.length_take, List.length_cons]; omega) (by rw [hF3.2 _ (by omega)]; exact hc) (fun j hj => ?_) _
        refine stV.cg (p4 j (by omega)) (okH ho (by omega)) (fun q hq => ?_)
        show fc (42 * (5 - 1 - j) + q) = hi (42 * ((lH s).length - 1 - j) + q)
        rw [he, if_pos (by omega)]
        congr 1
        omega
      | succ n ih =>
        intro i w' fc hii hF hc he
        have m1 : mO w' D v := (hF.2 D (by omega)).trans o1
        refine qX10_record_11 ?_
        refine qX10_record_12 ?_
        refine nX10_record_15 (by omega) (by omega) (fun h15 => by exfalso; omega) (fun h15 => ?_)
        refine qX10_record_18 ?_
        refine qX10_record_19 (by assumption) ?_
        refine qX10_record_22 ?_
        refine qX10_record_23 ?_
        refine qX10_record_24 (by assumption) ?_
        refine qX10_record_27 ?_
        refine qX10_record_28 ?_
        first | refine nX10_record_30 ?_ | refine qX10_record_30 ?_
        first | refine fX10_record_31 (by assumption) (by omega) (by decide) ?_ | refine nX10_record_31 (by assumption) (by omega) (by decide) ?_
        first | refine fX10_record_32 (by assumption) (by omega) (by decide) ?_ | refine nX10_record_32 (by assumption) (by omega) (by decide) ?_
        first | refine nX10_record_33 ?_ | refine qX10_record_33 ?_
        refine qX10_record_36 ?_
        refine ih (i + 1) _ (updN fc i (fc (i + 42))) (by omega) (hF.up rfl) s_upS (fun j => ?_)
        by_cases hj : j = i
        · subst hj
          rw [updN_s, if_pos (by omega), he, if_neg (by omega)]
        · rw [updN_n hj, he j]
          by_cases hj2 : j < i
          · rw [if_pos hj2, if_pos (by omega)]
          · rw [if_neg hj2, if_neg (by omega)]
    exact L 210 0 w hi rfl Fr.rf p3 (fun j => by rw [if_neg (by omega)])
theorem m_record (h : mdAt G w D s) (ho : okS s) (k : ∀ w', Fr w w' (fun q => q = D ∨ q = D + 2) → mdAt G w' D (remS s) → P none w') : wpM G (d + 2) yX10_record (0, 0) [.ref D] w P := m_recordV h ho (fun w' _ _ _ _ _ hF hm => k w' hF hm)
theorem m_becomes {t : Nat → GV} {i R C : Nat} {td : Nat → Nat} (h : mO w D v) (hs : w.1 (D + 1) = aN G 42 st) (hV : stV st t) (hok : okT t) (htd : w.1 (D + 6) = aN G 48 td) (hi : i < 3) (hR : R * C ≤ 12) (k : ∀ w' st', Fr w w' (fun q => q = D + 1) → w'.1 (D + 1) = aN G 42 st' → stV st' (setA t i (R, C, td)) → P none w') : wpM G (d + 1) yX10_becomes (0, 0) [.ref D, .int (nI i), .int (nI R), .int (nI C)] w P := by
  refine eX10_becomes ?_
  refine qX10_becomes_0 ?_
  refine qX10_becomes_1 (by assumption) ?_
  refine qX10_becomes_4 ?_
  refine qX10_becomes_6 ?_
  first | refine nX10_becomes_7 ?_ | refine qX10_becomes_7 ?_
  refine qX10_becomes_8 ?_
  first | refine nX10_becomes_9 ?_ | refine qX10_becomes_9 ?_
  refine qX10_becomes_10 ?_
  first | refine fX10_becomes_11 (by assumption) (by omega) (by decide) ?_ | refine nX10_becomes_11 (by assumption) (by omega) (by decide) ?_
  generalize hw1 : s_up w (D + 1) _ = w1
  have hF1 : Fr w w1 (fun q => q = D + 1) := by rw [← hw1]; exact Fr.rf.up rfl
  have e1 : w1.1 (D + 1) = aN G 42 (updN st (14 * i + 0) R) := by rw [← hw1]; exact s_upS
  have h1 : mO w1 D v := (hF1.2 D (by omega)).trans h
  refine qX10_becomes_12 ?_
  refine qX10_becomes_13 (by assumption) ?_
  refine qX10_becomes_16 ?_
  refine qX10_becomes_18 ?_
  first | refine nX10_becomes_19 ?_ | refine qX10_becomes_19 ?_
  refine qX10_becomes_20 ?_
  first | refine nX10_becomes_21 ?_ | refine qX10_becomes_21 ?_
  refine qX10_becomes_22 ?_
  first | refine fX10_becomes_23 (by assumption) (by omega) (by decide) ?_ | refine nX10_becomes_23 (by assumption) (by omega) (by decide) ?_
  generalize hw2 : s_up w1 (D + 1) _ = w2
  have hF2 : Fr w w2 (fun q => q = D + 1) := by rw [← hw2]; exact hF1.up rfl
  have e2 : w2.1 (D + 1) = aN G 42 (updN (updN st (14 * i + 0) R) (14 * i + 1) C) := by rw [← hw2]; exact s_upS
  refine qX10_becomes_24 ?_
  refine qX10_becomes_25 ?_
  have L : ∀ n j (w' : sW) (st' : Nat → Nat), j + n = 12 → Fr w w' (fun q => q = D + 1) → w'.1 (D + 1) = aN G 42 st' → (∀ x, x < 14 * i ∨ 14 * i + 14 ≤ x → st' x = st x) → st' (14 * i + 0) = R → st' (14 * i + 1) = C → (∀ q, q < j → q < R * C → st' (14 * i + 2 + q) = td q) → wp G d mX10_becomes P 27 [some (.ref D), some (.int (nI i)), some (.int (nI R)), some (.int (nI C)), some (.int (nI j))] [] w' (0, 0) := by
    intro n
    induction n with
    | zero =>
      intro j w' st' hj hF hc a1 a2 a3 a4
      refine qX10_becomes_27 ?_
      refine qX10_becomes_29 ?_
      refine nX10_becomes_31 (by omega) (by omega) (fun h31 => ?_) (fun h31 => by exfalso; omega)
      refine qX10_becomes_73 ?_
      exact k w' st' hF hc (hV.set hok hi a1 ⟨a2, a3, fun q hq => a4 q (by have : q < R * C := hq; omega) hq⟩)
    | succ n ih =>
      intro j w' st' hj hF hc a1 a2 a3 a4
      have h1 : mO w' D v := (hF.2 D (by omega)).trans h
      have ht2 : w'.1 (D + 6) = aN G 48 td := by rw [hF.2 _ (by omega)]; exact htd
      have fin : ∀ y, (j < R * C → y = td j) → wp G d mX10_becomes P 66 [some (.ref D), some (.int (nI i)), some (.int (nI R)), some (.int (nI C)), some (.int (nI j))] [.int (nI y), .int (nI (14 * i + 2 + j)), .ref (D + 1)] w' (0, 0) := by
        intro y hy
        first | refine fX10_becomes_66 (by assumption) (by omega) (by decide) ?_ | refine nX10_becomes_66 (by assumption) (by omega) (by decide) ?_
        first | refine nX10_becomes_67 ?_ | refine qX10_becomes_67 ?_
        refine qX10_becomes_70 ?_
        refine ih (j + 1) _ (updN st' (14 * i + 2 + j) y) (by omega) (hF.up rfl) s_upS (fun x hx => ?_) ?_ ?_ (fun q hq hq2 => ?_)
        · rw [updN_n (by omega)]; exact a1 x hx
        · rw [updN_n (by omega)]; exact a2
        · rw [updN_n (by omega)]; exact a3
        · by_cases hqj : q = j
          · subst hqj; rw [updN_s]; exact hy hq2
          · rw [updN_n (by omega)]; exact a4 q (by omega) hq2
      refine qX10_becomes_27 ?_
      refine qX10_becomes_29 ?_
      refine nX10_becomes_31 (by omega) (by omega) (fun h31 => by exfalso; omega) (fun h31 => ?_)
      refine qX10_becomes_34 ?_
      refine qX10_becomes_35 (by assumption) ?_
      refine qX10_becomes_38 ?_
      refine qX10_becomes_40 ?_
      first | refine nX10_becomes_41 ?_ | refine qX10_becomes_41 ?_
      refine qX10_becomes_42 ?_
      first | refine nX10_becomes_43 ?_ | refine qX10_becomes_43 ?_
      refine qX10_becomes_44 ?_
      first | refine nX10_becomes_46 ?_ | refine qX10_becomes_46 ?_
      refine qX10_becomes_47 ?_
      refine qX10_becomes_49 ?_
      refine qX10_becomes_50 ?_
      first | refine nX10_becomes_51 ?_ | refine qX10_becomes_51 ?_
      refine nX10_becomes_52 (by omega) (by omega) (fun h52 => ?_) (fun h52 => ?_)
      · refine qX10_becomes_65 ?_
        exact fin 0 (fun z => by omega)
      · refine qX10_becomes_55 ?_
        refine qX10_becomes_56 (by assumption) ?_
        refine qX10_becomes_59 ?_
        first | refine fX10_becomes_61 (by assumption) (by omega) (by decide) ?_ | refine nX10_becomes_61 (by assumption) (by omega) (by decide) ?_
        refine qX10_becomes_62 ?_
        exact fin (td j) (fun _ => rfl)
  refine L 12 0 w2 _ rfl hF2 e2 (fun x hx => ?_) ?_ ?_ (fun q hq => absurd hq (Nat.not_lt_zero q))
  · rw [updN_n (by omega), updN_n (by omega)]
  · rw [updN_n (by omega), updN_s]
  · rw [updN_s]
end REF2
