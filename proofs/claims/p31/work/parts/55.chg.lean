/-! the calls that change an array -/
def remS (s : xS) : xS := (lA s, (lA s :: lH s).take 6, lS s, lv s, ln s, lc s)
def upS (s : xS) (i : Nat) (v : GV) : xS := (setA (lA s) i v, lH s, lS s, lv s, ln s, lc s)
def padS (s : xS) (n : Nat) : xS := (lA s, lH s, lS s, lv s, n, lc s)
theorem okS.rem {s : xS} (ho : okS s) : okS (remS s) := by
  obtain ⟨h1, h2, h3, h4, h5, h6⟩ := ho
  refine ⟨h1, ?_, ?_, h4, h5, h6⟩
  · show ((lA s :: lH s).take 6).length ≤ 6
    rw [List.length_take]
    exact Nat.min_le_left _ _
  · intro t ht
    have ht : t ∈ (lA s :: lH s).take 6 := ht
    have := List.mem_of_mem_take ht
    rw [List.mem_cons] at this
    rcases this with e | e
    · rw [e]; exact h1
    · exact h3 t e
theorem okS.up {s : xS} {i : Nat} {v : GV} (ho : okS s) (hv : okV v) : okS (upS s i v) := by
  obtain ⟨h1, h2, h3, h4, h5, h6⟩ := ho
  refine ⟨fun j hj => ?_, h2, h3, h4, h5, h6⟩
  show okV (setA (lA s) i v j)
  unfold setA
  split
  · exact hv
  · exact h1 j hj
theorem okS.pad0 {s : xS} (ho : okS s) : okS (padS s 0) := by
  obtain ⟨h1, h2, h3, h4, h5, h6⟩ := ho
  exact ⟨h1, h2, h3, h4, Nat.zero_le _, fun k hk => absurd hk (Nat.not_lt_zero k)⟩
section CHG
variable {G : sG} {d : Nat} {P : sQ} {w w' : sW} {B : Nat} {s : xS}
theorem clAt.rem (h : clAt G w B s) (ho : okS s) (k : ∀ w', Fr w w' (fun q => B + 9 ≤ q ∧ q < B + 59) → clAt G w' B (remS s) → P none w') : wpM G (d + 4) yX3_remember (0, 0) [.ref (B + 9), .ref (B + 1)] w P := by
  obtain ⟨h1, h2, h3, h4, h5, h6, h7⟩ := id h
  refine t_rem h3 ho.2.1 h2 ho.1 (by omega) (fun w' hF hh => ?_)
  refine k w' hF ⟨?_, h2.fr hF (fun q a1 a2 => by omega), hh, h4.fr hF (by omega) (fun q a1 a2 => by omega), h5.fr hF (by omega), h6.fr hF (by omega) (by omega), h7.fr hF (fun q a1 a2 => by omega)⟩
  unfold clO at h1 ⊢
  rw [hF.2 _ (by omega)]
  exact h1
theorem clAt.ups {i R C : Nat} {a : Nat → Nat} {v : GV} (h : clAt G w B s) (hi : i < 3) (hF : Fr w w' (sGE (B + 1 + 2 + 2 * i) (B + 1 + 2 + 2 * i + 1))) (hg : gAt G w' (B + 1 + 2 + 2 * i) (B + 1 + 2 + 2 * i + 1) R C a) (he : eqA (R, C, a) v) : clAt G w' B (upS s i v) := by
  obtain ⟨h1, h2, h3, h4, h5, h6, h7⟩ := id h
  refine ⟨?_, h2.set hi hF hg he, h3.fr hF (fun q a1 a2 => by unfold sGE; omega), h4.fr hF (by unfold sGE; omega) (fun q a1 a2 => by unfold sGE; omega), h5.fr hF (by unfold sGE; omega), h6.fr hF (by unfold sGE; omega) (by unfold sGE; omega), h7.fr hF (fun q a1 a2 => by unfold sGE; omega)⟩
  unfold clO at h1 ⊢
  rw [hF.2 _ (by unfold sGE; omega)]
  exact h1
theorem clAt.pad {n : Nat} (h : clAt G w B s) (hF : Fr w w' (fun q => q = B + 61)) (hp : padP G w' (B + 61) n (lc s)) : clAt G w' B (padS s n) := by
  obtain ⟨h1, h2, h3, h4, h5, h6, h7⟩ := id h
  refine ⟨?_, h2.fr hF (fun q a1 a2 => by omega), h3.fr hF (fun q a1 a2 => by omega), h4.fr hF (by omega) (fun q a1 a2 => by omega), h5.fr hF (by omega), hp, h7.fr hF (fun q a1 a2 => by omega)⟩
  unfold clO at h1 ⊢
  rw [hF.2 _ (by omega)]
  exact h1
theorem clAt.o (h : clAt G w B s) : w.1 B = ob 8 [.ref (B + 1), .ref (B + 9), .ref (B + 59), .ref (B + 60), .ref (B + 61), .ref (B + 63), .ref (B + 65), .ref (B + 67), .ref (B + 70), .ref (B + 71), .ref (B + 75)] := h.1
theorem clAt.his (h : clAt G w B s) : ∃ fs, w.1 (B + 9) = ob 2 fs := by
  obtain ⟨_, _, ⟨nx, H, _, ⟨f0, r1, _⟩, _⟩, _⟩ := h
  exact ⟨_, r1⟩
end CHG
noncomputable def spSet (s : xS) (x y z v : Int32) : Int32 × xS := cIf (inB x 3 ∧ inB y (lA s (nN x)).1 ∧ inB z (lA s (nN x)).2.1) (cIf (inB v 1000) (nI ((lA s (nN x)).2.2 (nN y * (lA s (nN x)).2.1 + nN z)), upS (remS s) (nN x) ((lA s (nN x)).1, (lA s (nN x)).2.1, updN (lA s (nN x)).2.2 (nN y * (lA s (nN x)).2.1 + nN z) (nN v))) (-2, s)) (-1, s)
noncomputable def spDrop (s : xS) (x : Int32) (b : Bool) (z : Int32) : Int32 × xS := cIf (inB x 3 ∧ inB z (lnN b (lA s (nN x)).1 (lA s (nN x)).2.1)) (if lnN b (lA s (nN x)).1 (lA s (nN x)).2.1 = 1 then (-5, s) else (nI (lnN b ((lA s (nN x)).1 - 1) (lA s (nN x)).1 * lnN b (lA s (nN x)).2.1 ((lA s (nN x)).2.1 - 1)), upS (remS s) (nN x) (lnN b ((lA s (nN x)).1 - 1) (lA s (nN x)).1, lnN b (lA s (nN x)).2.1 ((lA s (nN x)).2.1 - 1), fun k => (lA s (nN x)).2.2 (rmN b (lA s (nN x)).2.1 (nN z) k)))) (-1, s)
noncomputable def spExchange (s : xS) (x : Int32) (b : Bool) (z o : Int32) : Int32 × xS := cIf (inB x 3 ∧ inB z (lnN b (lA s (nN x)).1 (lA s (nN x)).2.1) ∧ inB o (lnN b (lA s (nN x)).1 (lA s (nN x)).2.1)) (cIf (z = o) (-2, s) (nI (tf (unL b (lA s (nN x)).2.1 (nN z) (nN o) (lA s (nN x)).2.2 (lnN (!b) (lA s (nN x)).1 (lA s (nN x)).2.1))), upS (remS s) (nN x) ((lA s (nN x)).1, (lA s (nN x)).2.1, swL b (lA s (nN x)).2.1 (nN z) (nN o) (lA s (nN x)).2.2))) (-1, s)
noncomputable def spTurn (s : xS) (x : Int32) : Int32 × xS := cIf (inB x 3) (nI (lA s (nN x)).2.1, upS (remS s) (nN x) ((lA s (nN x)).2.1, (lA s (nN x)).1, tuN (lA s (nN x)).1 (lA s (nN x)).2.1 (lA s (nN x)).2.2)) (-1, s)
noncomputable def spClose (s : xS) (x : Int32) : Int32 × xS := cIf (inB x 3) (if (lA s (nN x)).1 = (lA s (nN x)).2.1 then (nI (unlN (fwB (lA s (nN x)).1 (lA s (nN x)).1 (lA s (nN x)).2.2) (lA s (nN x)).2.2 ((lA s (nN x)).1 * (lA s (nN x)).1)), upS (remS s) (nN x) ((lA s (nN x)).1, (lA s (nN x)).1, fwB (lA s (nN x)).1 (lA s (nN x)).1 (lA s (nN x)).2.2)) else (-5, s)) (-1, s)
noncomputable def spProduct (s : xS) (x y z : Int32) : Int32 × xS := cIf (inB x 3 ∧ inB y 3 ∧ inB z 3) (if (lA s (nN x)).2.1 = (lA s (nN y)).1 then (if 12 < (lA s (nN x)).1 * (lA s (nN y)).2.1 ∨ 999 < mxF (prN (lA s (nN x)).2.1 (lA s (nN y)).2.1 (lA s (nN x)).2.2 (lA s (nN y)).2.2) ((lA s (nN x)).1 * (lA s (nN y)).2.1) then (-4, s) else (nI ((lA s (nN x)).1 * (lA s (nN y)).2.1), upS (remS s) (nN z) ((lA s (nN x)).1, (lA s (nN y)).2.1, prN (lA s (nN x)).2.1 (lA s (nN y)).2.1 (lA s (nN x)).2.2 (lA s (nN y)).2.2))) else (-5, s)) (-1, s)
theorem unL_cong {b : Bool} {R C n o : Nat} {a a' : Nat → Nat} (hd : okD R C) (h : ∀ k, k < R * C → a k = a' k) (hn : n < lnN b R C) (ho : o < lnN b R C) : ∀ m, m ≤ lnN (!b) R C → unL b C n o a m = unL b C n o a' m
  | 0, _ => rfl
  | m + 1, hm => by
    simp only [unL]
    rw [unL_cong hd h hn ho m (by omega), h _ (plN_lt hd hn (by omega)), h _ (plN_lt hd ho (by omega))]
theorem swL_cong {b : Bool} {R C n o : Nat} {a a' : Nat → Nat} (hd : okD R C) (h : ∀ k, k < R * C → a k = a' k) (hn : n < lnN b R C) (ho : o < lnN b R C) : ∀ k, k < R * C → swL b C n o a k = swL b C n o a' k := fun k hk => by
  have hp := (lp_lt (b := b) hk).2
  unfold swL
  rw [h _ (plN_lt hd ho hp), h _ (plN_lt hd hn hp), h k hk]
theorem rm_lt {b : Bool} {R C n k : Nat} (hd : okD R C) (hn : n < lnN b R C) (h2 : 2 ≤ lnN b R C) (hk : k < lnN b (R - 1) R * lnN b C (C - 1)) : rmN b C n k < R * C := by
  obtain ⟨d1, d2, d3, d4, d5⟩ := hd
  cases b with
  | true =>
    have hk : k < (R - 1) * C := hk
    have h1 : 1 ≤ R := d1
    have h3 : (R - 1) * C + C = R * C := by rw [← Nat.succ_mul]; congr 1; omega
    simp only [rmN]
    split <;> omega
  | false =>
    have hk : k < R * (C - 1) := hk
    have h2 : 2 ≤ C := h2
    obtain ⟨q1, q2⟩ := dm_lt hk
    have h3 : (k / (C - 1) + 1) * C ≤ R * C := Nat.mul_le_mul_right C q1
    rw [Nat.add_mul] at h3
    simp only [rmN]
    split <;> omega
section CHG2
variable {G : sG} {d : Nat} {P : sQ} {w w' : sW} {B : Nat} {s : xS}
set_option maxHeartbeats 400000 in
theorem t_setE {x y z v : Int32} (h : clAt G w B s) (ho : okS s) (k : ∀ w', Fr w w' (sB B) → clAt G w' B (spSet s x y z v).2 → P (some (.int (spSet s x y z v).1)) w') : wpM G (d + 5) yX9_set (0, 0) [.ref B, .int x, .int y, .int z, .int v] w P := by
  have h0 := h.o
  unfold spSet at k
  refine eX9_set ?_
  refine qX9_set_0 ?_
  refine qX9_set_1 (Nat.le_of_ble_eq_true rfl) (t_isArray (fun i hi hx => ?_) (fun hx => ?_))
  · subst hx
    obtain ⟨g1, ⟨f, g2, g3⟩, a, g4, g5, g6, g7⟩ := clG h ho hi
    rw [nN_nI (by omega)] at k
    obtain ⟨q1, q2⟩ := id g4
    have b1 := g5.2.1
    have b2 := g5.2.2.2.1
    refine nX9_set_4 (by omega) (fun h4 => by exfalso; omega) (fun h4 => ?_)
    refine qX9_set_7 ?_
    refine qX9_set_8 (by assumption) ?_
    refine qX9_set_11 (by assumption) ?_
    refine qX9_set_14 ?_
    refine nX9_set_15 g2 (Or.inl rfl) hi (by decide) g3 ?_
    refine qX9_set_16 ?_
    refine qX9_set_17 ?_
    refine qX9_set_18 (by assumption) (Nat.le_of_ble_eq_true rfl) (t_has g4 (by omega) (by omega) (fun r c hr hc hy hz => ?_) (fun hno => ?_))
    · subst hy
      subst hz
      rw [cIf_t ⟨inB_nI hi, inB_nI hr, inB_nI hc⟩, nN_nI (by omega), nN_nI (by omega)] at k
      refine nX9_set_21 (by omega) (fun h21 => ?_) (fun h21 => by exfalso; omega)
      refine qX9_set_26 ?_
      refine qX9_set_28 (Nat.le_of_ble_eq_true rfl) (t_isValue (fun v hv hq => ?_) (fun hno => ?_))
      · subst hq
        rw [cIf_t (inB_nI hv), nN_nI (by omega), ← g7 _ (g5.in hr hc)] at k
        refine nX9_set_31 (by omega) (fun h31 => ?_) (fun h31 => by exfalso; omega)
        refine qX9_set_37 ?_
        refine qX9_set_38 (by assumption) ?_
        refine qX9_set_41 (by assumption) ?_
        refine qX9_set_44 ?_
        refine nX9_set_45 g2 (Or.inl rfl) hi (by decide) g3 ?_
        refine qX9_set_46 ?_
        refine qX9_set_48 ?_
        refine qX9_set_50 ?_
        refine qX9_set_51 ?_
        refine qX9_set_52 (by assumption) (Nat.le_of_ble_eq_true rfl) (t_at g4 (g5.in12 hr hc) ?_)
        obtain ⟨fs, hfs⟩ := h.his
        refine qX9_set_55 ?_
        refine qX9_set_57 ?_
        refine qX9_set_58 (by assumption) ?_
        refine qX9_set_61 ?_
        refine qX9_set_62 (by assumption) ?_
        refine qX9_set_65 (by assumption) (Nat.le_of_ble_eq_true rfl) (h.rem ho (fun w1 hF1 hc1 => ?_))
        obtain ⟨e1, ⟨f', e2, e3⟩, a1, e4, e5, e6, e7⟩ := clG hc1 ho.rem hi
        obtain ⟨q3, q4⟩ := id e4
        have q3 : w1.1 (B + 1 + 2 + 2 * i) = ob 1 [.ref (B + 1 + 2 + 2 * i + 1), .int (nI (lA s i).1), .int (nI (lA s i).2.1)] := q3
        refine qX9_set_68 ?_
        refine qX9_set_70 ?_
        refine qX9_set_71 ?_
        refine qX9_set_72 ?_
        refine qX9_set_74 (by assumption) (Nat.le_of_ble_eq_true rfl) (t_assign e4 (g5.in12 hr hc) ?_)
        have hg2 := e4.upE (a' := updN a1 (r * (lA s i).2.1 + c) v)
        generalize hw2 : s_up w1 (B + 1 + 2 + 2 * i + 1) (aN G 12 (updN a1 (r * (lA s i).2.1 + c) v)) = w2 at hg2
        have hw2' : s_up w1 (B + 1 + 2 + 2 * i + 1) (aN G 12 (updN a1 (r * (lA (remS s) i).2.1 + c) v)) = w2 := hw2
        rw [hw2']
        have hF2 : Fr w1 w2 (sGE (B + 1 + 2 + 2 * i) (B + 1 + 2 + 2 * i + 1)) := by rw [← hw2]; exact Fr.rf.up (Or.inr rfl)
        refine qX9_set_77 ?_
        refine qX9_set_79 ?_
        exact k w2 ((hF1.mono (fun q hq => by unfold sB; omega)).tr hF2 (fun q hq => by unfold sGE at hq; unfold sB; omega)) (hc1.ups hi hF2 hg2 ⟨rfl, rfl, updN_cong e7⟩)
      · rw [cIf_f hno] at k
        refine nX9_set_31 (by omega) (fun h31 => by exfalso; omega) (fun h31 => ?_)
        refine qX9_set_34 ?_
        refine qX9_set_36 ?_
        exact k w Fr.rf h
    · rw [cIf_f (fun e => hno e.2)] at k
      refine nX9_set_21 (by omega) (fun h21 => by exfalso; omega) (fun h21 => ?_)
      refine qX9_set_24 ?_
      refine qX9_set_25 ?_
      exact k w Fr.rf h
  · rw [cIf_f (fun e => hx e.1)] at k
    refine nX9_set_4 (by omega) (fun h4 => ?_) (fun h4 => by exfalso; omega)
    refine qX9_set_24 ?_
    refine qX9_set_25 ?_
    exact k w Fr.rf h
set_option maxHeartbeats 400000 in
theorem t_drop (b : Bool) {x z : Int32} (h : clAt G w B s) (ho : okS s) (k : ∀ w', Fr w w' (sB B) → clAt G w' B (spDrop s x b z).2 → P (some (.int (spDrop s x b z).1)) w') : wpM G (d + 5) yX9_drop (0, 0) [.ref B, .int x, .int (nI (bN b)), .int z] w P := by
  have h0 := h.o
  unfold spDrop at k
  refine eX9_drop ?_
  refine qX9_drop_0 ?_
  refine qX9_drop_1 (Nat.le_of_ble_eq_true rfl) (t_isArray (fun i hi hx => ?_) (fun hx => ?_))
  · subst hx
    obtain ⟨g1, ⟨f, g2, g3⟩, a, g4, g5, g6, g7⟩ := clG h ho hi
    rw [nN_nI (by omega)] at k
    obtain ⟨q1, q2⟩ := id g4
    have b1 := g5.2.1
    have b2 := g5.2.2.2.1
    have bl : lnN b (lA s i).1 (lA s i).2.1 ≤ 4 := by cases b <;> assumption
    refine nX9_drop_4 (by omega) (fun h4 => by exfalso; omega) (fun h4 => ?_)
    refine qX9_drop_7 ?_
    refine qX9_drop_8 (by assumption) ?_
    refine qX9_drop_11 (by assumption) ?_
    refine qX9_drop_14 ?_
    refine nX9_drop_15 g2 (Or.inl rfl) hi (by decide) g3 ?_
    refine qX9_drop_16 ?_
    refine qX9_drop_17 ?_
    refine qX9_drop_18 (by assumption) (Nat.le_of_ble_eq_true rfl) (t_hasLine b g4 (by omega) (by omega) (fun n hn hz => ?_) (fun hno => ?_))
    · subst hz
      rw [cIf_t ⟨inB_nI hi, inB_nI hn⟩, nN_nI (by omega)] at k
      refine nX9_drop_21 (by omega) (fun h21 => ?_) (fun h21 => by exfalso; omega)
      refine qX9_drop_26 ?_
      refine qX9_drop_27 (by assumption) ?_
      refine qX9_drop_30 (by assumption) ?_
      refine qX9_drop_33 ?_
      refine nX9_drop_34 g2 (Or.inl rfl) hi (by decide) g3 ?_
      refine qX9_drop_35 ?_
      refine qX9_drop_37 ?_
      refine qX9_drop_39 ?_
      refine qX9_drop_40 (by assumption) (Nat.le_of_ble_eq_true rfl) (t_lines b g4 ?_)
      refine qX9_drop_43 ?_
      refine nX9_drop_44 (by omega) (by omega) (fun h44 => ?_) (fun h44 => ?_)
      · rw [if_neg h44] at k
        obtain ⟨fs, hfs⟩ := h.his
        refine qX9_drop_50 ?_
        refine qX9_drop_51 (by assumption) ?_
        refine qX9_drop_54 ?_
        refine qX9_drop_55 (by assumption) ?_
        refine qX9_drop_58 (by assumption) (Nat.le_of_ble_eq_true rfl) (h.rem ho (fun w1 hF1 hc1 => ?_))
        obtain ⟨e1, ⟨f', e2, e3⟩, a1, e4, e5, e6, e7⟩ := clG hc1 ho.rem hi
        obtain ⟨q3, q4⟩ := id e4
        have e4 : gAt G w1 (B + 1 + 2 + 2 * i) (B + 1 + 2 + 2 * i + 1) (lA s i).1 (lA s i).2.1 a1 := e4
        refine qX9_drop_61 ?_
        refine qX9_drop_63 ?_
        refine qX9_drop_64 ?_
        have h2l : 2 ≤ lnN b (lA s i).1 (lA s i).2.1 := by omega
        refine qX9_drop_65 (by assumption) (Nat.le_of_ble_eq_true rfl) (t_removeLine b e4 e5 e6 hn h2l (fun w2 a2 hF2 hg2 ha2 => ?_))
        obtain ⟨q5, q6⟩ := id hg2
        refine qX9_drop_68 ?_
        refine qX9_drop_70 (by assumption) (Nat.le_of_ble_eq_true rfl) (t_size hg2 ?_)
        refine qX9_drop_73 ?_
        exact k w2 ((hF1.mono (fun q hq => by unfold sB; omega)).tr hF2 (fun q hq => by unfold sGE at hq; unfold sB; omega)) (hc1.ups hi hF2 hg2 ⟨rfl, rfl, fun j hj => (ha2 j hj).trans (e7 _ (rm_lt g5 hn h2l hj))⟩)
      · rw [if_pos h44] at k
        refine qX9_drop_47 ?_
        refine qX9_drop_49 ?_
        exact k w Fr.rf h
    · rw [cIf_f (fun e => hno e.2)] at k
      refine nX9_drop_21 (by omega) (fun h21 => by exfalso; omega) (fun h21 => ?_)
      refine qX9_drop_24 ?_
      refine qX9_drop_25 ?_
      exact k w Fr.rf h
  · rw [cIf_f (fun e => hx e.1)] at k
    refine nX9_drop_4 (by omega) (fun h4 => ?_) (fun h4 => by exfalso; omega)
    refine qX9_drop_24 ?_
    refine qX9_drop_25 ?_
    exact k w Fr.rf h
set_option maxHeartbeats 400000 in
theorem t_exchange (b : Bool) {x z o : Int32} (h : clAt G w B s) (ho : okS s) (k : ∀ w', Fr w w' (sB B) → clAt G w' B (spExchange s x b z o).2 → P (some (.int (spExchange s x b z o).1)) w') : wpM G (d + 5) yX9_exchange (0, 0) [.ref B, .int x, .int (nI (bN b)), .int z, .int o] w P := by
  have h0 := h.o
  unfold spExchange at k
  refine eX9_exchange ?_
  refine qX9_exchange_0 ?_
  refine qX9_exchange_1 (Nat.le_of_ble_eq_true rfl) (t_isArray (fun i hi hx => ?_) (fun hx => ?_))
  · subst hx
    obtain ⟨g1, ⟨f, g2, g3⟩, a, g4, g5, g6, g7⟩ := clG h ho hi
    rw [nN_nI (by omega)] at k
    obtain ⟨q1, q2⟩ := id g4
    have b1 := g5.2.1
    have b2 := g5.2.2.2.1
    have bl : lnN b (lA s i).1 (lA s i).2.1 ≤ 4 := by cases b <;> assumption
    refine nX9_exchange_4 (by omega) (fun h4 => by exfalso; omega) (fun h4 => ?_)
    refine qX9_exchange_7 ?_
    refine qX9_exchange_8 (by assumption) ?_
    refine qX9_exchange_11 (by assumption) ?_
    refine qX9_exchange_14 ?_
    refine nX9_exchange_15 g2 (Or.inl rfl) hi (by decide) g3 ?_
    refine qX9_exchange_16 ?_
    refine qX9_exchange_17 ?_
    refine qX9_exchange_18 (by assumption) (Nat.le_of_ble_eq_true rfl) (t_hasLine b g4 (by omega) (by omega) (fun n hn hz => ?_) (fun hno => ?_))
    · subst hz
      refine nX9_exchange_21 (by omega) (fun h21 => by exfalso; omega) (fun h21 => ?_)
      refine qX9_exchange_24 ?_
      refine qX9_exchange_25 (by assumption) ?_
      refine qX9_exchange_28 (by assumption) ?_
      refine qX9_exchange_31 ?_
      refine nX9_exchange_32 g2 (Or.inl rfl) hi (by decide) g3 ?_
      refine qX9_exchange_33 ?_
      refine qX9_exchange_34 ?_
      refine qX9_exchange_36 (by assumption) (Nat.le_of_ble_eq_true rfl) (t_hasLine b g4 (by omega) (by omega) (fun m hm hz => ?_) (fun hno => ?_))
      · subst hz
        rw [cIf_t ⟨inB_nI hi, inB_nI hn, inB_nI hm⟩, nN_nI (by omega), nN_nI (by omega)] at k
        refine nX9_exchange_39 (by omega) (fun h39 => ?_) (fun h39 => by exfalso; omega)
        refine qX9_exchange_44 ?_
        refine qX9_exchange_45 ?_
        refine nX9_exchange_47 (by omega) (by omega) (fun h47 => ?_) (fun h47 => ?_)
        · rw [cIf_f (fun e => h47 (by rw [nI_eq (by omega) (by omega)] at e; exact e)), ← unL_cong g5 g7 hn hm _ (Nat.le_refl _)] at k
          obtain ⟨fs, hfs⟩ := h.his
          refine qX9_exchange_53 ?_
          refine qX9_exchange_54 (by assumption) ?_
          refine qX9_exchange_57 ?_
          refine qX9_exchange_58 (by assumption) ?_
          refine qX9_exchange_61 (by assumption) (Nat.le_of_ble_eq_true rfl) (h.rem ho (fun w1 hF1 hc1 => ?_))
          obtain ⟨e1, ⟨f', e2, e3⟩, a1, e4, e5, e6, e7⟩ := clG hc1 ho.rem hi
          obtain ⟨q3, q4⟩ := id e4
          have e0 := hc1.o
          have e4 : gAt G w1 (B + 1 + 2 + 2 * i) (B + 1 + 2 + 2 * i + 1) (lA s i).1 (lA s i).2.1 a1 := e4
          refine qX9_exchange_64 ?_
          refine qX9_exchange_65 (by assumption) ?_
          refine qX9_exchange_68 (by assumption) ?_
          refine qX9_exchange_71 ?_
          refine nX9_exchange_72 e2 (Or.inl rfl) hi (by decide) e3 ?_
          refine qX9_exchange_73 ?_
          refine qX9_exchange_74 ?_
          refine qX9_exchange_75 ?_
          refine qX9_exchange_77 (by assumption) (Nat.le_of_ble_eq_true rfl) (t_swapLines b e4 e5 e6 hn hm h47 (fun w2 a2 hF2 hg2 ha2 => ?_))
          have hek : ∀ j, j < (lA s i).1 * (lA s i).2.1 → a1 j = a j := fun j hj => (e7 j hj).trans (g7 j hj).symm
          rw [unL_cong g5 hek hn hm _ (Nat.le_refl _)]
          have kk := k w2 ((hF1.mono (fun q hq => by unfold sB; omega)).tr hF2 (fun q hq => by unfold sGE at hq; unfold sB; omega)) (hc1.ups hi hF2 hg2 ⟨rfl, rfl, fun j hj => (ha2 j hj).trans (swL_cong g5 e7 hn hm j hj)⟩)
          cases hq : unL b (lA s i).2.1 n m a (lnN (!b) (lA s i).1 (lA s i).2.1)
          · rw [hq] at kk
            have kk : P (some (.int (nI 0))) w2 := kk
            show wp G (d + 4) mX9_exchange P 80 _ (.int (nI 0) :: []) w2 (0, 0)
            refine nX9_exchange_80 (by omega) (fun h80 => ?_) (fun h80 => by exfalso; omega)
            refine qX9_exchange_87 ?_
            refine qX9_exchange_88 ?_
            exact kk
          · rw [hq] at kk
            have kk : P (some (.int (nI 1))) w2 := kk
            show wp G (d + 4) mX9_exchange P 80 _ (.int (nI 1) :: []) w2 (0, 0)
            refine nX9_exchange_80 (by omega) (fun h80 => by exfalso; omega) (fun h80 => ?_)
            refine qX9_exchange_83 ?_
            refine qX9_exchange_84 ?_
            refine qX9_exchange_88 ?_
            exact kk
        · rw [cIf_t (by rw [h47])] at k
          refine qX9_exchange_50 ?_
          refine qX9_exchange_52 ?_
          exact k w Fr.rf h
      · rw [cIf_f (fun e => hno e.2.2)] at k
        refine nX9_exchange_39 (by omega) (fun h39 => by exfalso; omega) (fun h39 => ?_)
        refine qX9_exchange_42 ?_
        refine qX9_exchange_43 ?_
        exact k w Fr.rf h
    · rw [cIf_f (fun e => hno e.2.1)] at k
      refine nX9_exchange_21 (by omega) (fun h21 => ?_) (fun h21 => by exfalso; omega)
      refine qX9_exchange_42 ?_
      refine qX9_exchange_43 ?_
      exact k w Fr.rf h
  · rw [cIf_f (fun e => hx e.1)] at k
    refine nX9_exchange_4 (by omega) (fun h4 => ?_) (fun h4 => by exfalso; omega)
    refine qX9_exchange_42 ?_
    refine qX9_exchange_43 ?_
    exact k w Fr.rf h
end CHG2
