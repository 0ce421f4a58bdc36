def savS (s : xS) (j : Nat) : xS := (lA s, lH s, (fun i => if i = j then lA s else lS s i), (fun i => if i = j then true else lv s i), ln s, lc s)
noncomputable def spSave (s : xS) (x : Int32) : Int32 × xS := cIf (inB x 2) (nI (szS (lA s) 3), savS s (nN x)) (-2, s)
section CALLS9
variable {G : sG} {d : Nat} {P : sQ} {w : sW} {B : Nat} {s : xS}
theorem t_save {x : Int32} (h : clAt G w B s) (ho : okS s) (k : ∀ w', Fr w w' (fun q => B ≤ q ∧ q < B + 92) → clAt G w' B (spSave s x).2 → P (some (.int (spSave s x).1)) w') : wpM G (d + 5) yX9_save (0, 0) [.ref B, .int x] w P := by
  have h0 := h.1
  unfold clO at h0
  obtain ⟨h1, ⟨σ, h2, h2e⟩, h3, ⟨f, s1, s2, s3⟩, ⟨z, z1, z2⟩, h6, h8⟩ := id h
  unfold spSave at k
  refine eX9_save ?_
  refine qX9_save_0 ?_
  refine qX9_save_1 (Nat.le_of_ble_eq_true rfl) (t_isSlot (fun j hj hx => ?_) (fun hx => ?_))
  · subst hx
    rw [cIf_t (inB_nI hj), nN_nI (by omega)] at k
    obtain ⟨τ, s4, s5⟩ := s3 j hj
    obtain ⟨f2, y1, y2⟩ := id s4
    refine nX9_save_4 (by omega) (fun h4 => ?_) (fun h4 => by exfalso; omega)
    refine qX9_save_10 ?_
    refine qX9_save_11 (by assumption) ?_
    refine qX9_save_14 ?_
    refine nX9_save_15 s1 (Or.inr rfl) hj (by decide) (s2 j hj) ?_
    refine qX9_save_16 ?_
    refine qX9_save_17 (by assumption) ?_
    refine qX9_save_20 (by assumption) (Nat.le_of_ble_eq_true rfl) (t_stBecome s4 h2 (by omega) (fun w' σ' hF hs hq => ?_))
    have e0 : w'.1 B = _ := (hF.2 B (by omega)).trans h0
    have e1 : w'.1 (B + 60) = _ := (hF.2 (B + 60) (by omega)).trans z1
    refine qX9_save_23 ?_
    refine qX9_save_24 (by assumption) ?_
    refine qX9_save_27 ?_
    refine qX9_save_28 ?_
    refine nX9_save_29 (by assumption) (by omega) (by decide) ?_
    generalize hw2 : s_up w' (B + 60) _ = w2
    have hF2 : Fr w' w2 (fun q => q = B + 60) := by rw [← hw2]; exact Fr.rf.up rfl
    have hF3 : Fr w w2 (fun q => q = B + 60 ∨ (B + 76 + 8 * j + 2 ≤ q ∧ q < B + 76 + 8 * j + 8)) := (hF.mono (fun q hq => Or.inr hq)).tr hF2 (fun q hq => Or.inl hq)
    have e2 : w2.1 B = _ := (hF2.2 B (by omega)).trans e0
    have hn2 : stAt G w2 (B + 1) σ := h2.fr hF3 (fun q a1 a2 => by omega)
    obtain ⟨f3, u1, u2⟩ := id hn2
    refine qX9_save_30 ?_
    refine qX9_save_31 (by assumption) ?_
    refine qX9_save_34 (by assumption) (Nat.le_of_ble_eq_true rfl) (t_stSize hn2 ?_)
    refine qX9_save_37 ?_
    rw [szS_eq h2e 3 (Nat.le_refl 3)]
    refine k w2 (hF3.mono (fun q hq => by omega)) ⟨e2, ⟨σ, hn2, h2e⟩, h3.fr hF3 (fun q a1 a2 => by omega), ⟨f, by rw [hF3.2 _ (by omega)]; exact s1, s2, fun i hi => ?_⟩, ⟨_, by rw [← hw2]; exact s_upS, fun i hi => ?_⟩, h6.fr hF3 (by omega) (by omega), h8.fr hF3 (fun q a1 a2 => by omega)⟩
    · by_cases hij : i = j
      · subst hij
        refine ⟨σ', hs.fr hF2 (fun q a1 a2 => by omega), fun _ => ?_⟩
        show eqT σ' (if i = i then lA s else lS s i)
        rw [if_pos rfl]
        exact (eqG3 hq (ho.1.eq h2e)).tr h2e
      · obtain ⟨τ2, t1, t2⟩ := s3 i hi
        refine ⟨τ2, t1.fr hF3 (fun q a1 a2 => by omega), fun hv => ?_⟩
        have hv : (if i = j then true else lv s i) = true := hv
        rw [if_neg hij] at hv
        show eqT τ2 (if i = j then lA s else lS s i)
        rw [if_neg hij]
        exact t2 hv
    · show _ = nI (if (if i = j then true else lv s i) = true then 1 else 0)
      by_cases hij : i = j
      · subst hij
        rw [if_pos rfl, if_pos rfl]
        simp only [upd, if_true]
        decide
      · rw [if_neg hij, ← z2 i hi]
        simp [upd, hij]
  · rw [cIf_f hx] at k
    refine nX9_save_4 (by omega) (fun h4 => by exfalso; omega) (fun h4 => ?_)
    refine qX9_save_7 ?_
    refine qX9_save_9 ?_
    exact k w Fr.rf h
end CALLS9
