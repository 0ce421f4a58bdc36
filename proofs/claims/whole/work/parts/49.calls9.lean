def resS (s : xS) (j : Nat) : xS := (lS s j, (lA s :: lH s).take 6, lS s, lv s, ln s, lc s)
noncomputable def spRestore (s : xS) (x : Int32) : Int32 × xS := cIf (inB x 2) (if lv s (nN x) = true then (nI (szS (lS s (nN x)) 3), resS s (nN x)) else (-5, s)) (-2, s)
section CALLS10
variable {G : sG} {d : Nat} {P : sQ} {w : sW} {B : Nat} {s : xS}
theorem t_restore {x : Int32} (h : clAt G w B s) (ho : okS s) (k : ∀ w', Fr w w' (fun q => B ≤ q ∧ q < B + 92) → clAt G w' B (spRestore s x).2 → P (some (.int (spRestore s x).1)) w') : wpM G (d + 5) yX9_restore (0, 0) [.ref B, .int x] w P := by
  have h0 := h.1
  unfold clO at h0
  obtain ⟨h1, h2, h3, hsl, ⟨z, z1, z2⟩, hpd, hsc⟩ := id h
  unfold spRestore at k
  refine eX9_restore ?_
  refine qX9_restore_0 ?_
  refine qX9_restore_1 (Nat.le_of_ble_eq_true rfl) (t_isSlot (fun j hj hx => ?_) (fun hx => ?_))
  · subst hx
    rw [cIf_t (inB_nI hj), nN_nI (by omega)] at k
    refine nX9_restore_4 (by omega) (fun h4 => ?_) (fun h4 => by exfalso; omega)
    refine qX9_restore_10 ?_
    refine qX9_restore_11 (by assumption) ?_
    refine qX9_restore_14 ?_
    refine nX9_restore_15 (by assumption) (by omega) (by decide) ?_
    rw [z2 j hj]
    cases hv : lv s j with
    | false =>
      rw [hv, if_neg (by decide)] at k
      rw [if_neg (by decide)]
      refine nX9_restore_16 (by omega) (fun h16 => by exfalso; omega) (fun h16 => ?_)
      refine qX9_restore_19 ?_
      refine qX9_restore_21 ?_
      exact k w Fr.rf h
    | true =>
      rw [hv, if_pos rfl] at k
      rw [if_pos rfl]
      refine nX9_restore_16 (by omega) (fun h16 => ?_) (fun h16 => by exfalso; omega)
      refine qX9_restore_22 ?_
      refine qX9_restore_23 (by assumption) ?_
      refine qX9_restore_26 ?_
      refine qX9_restore_27 (by assumption) ?_
      obtain ⟨nx, H, _, ⟨f0, r1, r2⟩, _⟩ := id h3
      refine qX9_restore_30 (by assumption) (Nat.le_of_ble_eq_true rfl) (t_rem h3 ho.2.1 h2 ho.1 (by omega) (fun w1 hF1 hh1 => ?_))
      have e0 : w1.1 B = _ := (hF1.2 B (by omega)).trans h0
      obtain ⟨σ, h2', h2e⟩ := h2.fr hF1 (fun q a1 a2 => by omega)
      obtain ⟨f, s1, s2, s3⟩ := hsl.fr hF1 (by omega) (fun q a1 a2 => by omega)
      obtain ⟨τ, s4, s5⟩ := s3 j hj
      obtain ⟨f2, y1, y2⟩ := id h2'
      refine qX9_restore_33 ?_
      refine qX9_restore_34 (by assumption) ?_
      refine qX9_restore_37 ?_
      refine qX9_restore_38 (by assumption) ?_
      refine qX9_restore_41 ?_
      refine nX9_restore_42 s1 (Or.inr rfl) hj (by decide) (s2 j hj) ?_
      refine qX9_restore_43 (by assumption) (Nat.le_of_ble_eq_true rfl) (t_stBecome h2' s4 (by omega) (fun w2 σ' hF2 hs hq => ?_))
      have e2 : w2.1 B = _ := (hF2.2 B (by omega)).trans e0
      have hF3 : Fr w w2 (fun q => (B + 9 ≤ q ∧ q < B + 59) ∨ (B + 3 ≤ q ∧ q < B + 9)) := (hF1.mono (fun q hq => Or.inl hq)).tr hF2 (fun q hq => by omega)
      obtain ⟨f3, u1, u2⟩ := id hs
      have ok1 : okT (lS s j) := ho.2.2.2.1 j hj hv
      have e3 : eqT σ' (lS s j) := (eqG3 hq (ok1.eq (s5 hv))).tr (s5 hv)
      refine qX9_restore_46 ?_
      refine qX9_restore_47 (by assumption) ?_
      refine qX9_restore_50 (by assumption) (Nat.le_of_ble_eq_true rfl) (t_stSize hs ?_)
      refine qX9_restore_53 ?_
      rw [szS_eq e3 3 (Nat.le_refl 3)]
      exact k w2 (hF3.mono (fun q hq => by omega)) ⟨e2, ⟨σ', hs, e3⟩, hh1.fr hF2 (fun q a1 a2 => by omega), hsl.fr hF3 (by omega) (fun q a1 a2 => by omega), savP.fr ⟨z, z1, z2⟩ hF3 (by omega), hpd.fr hF3 (by omega) (by omega), hsc.fr hF3 (fun q a1 a2 => by omega)⟩
  · rw [cIf_f hx] at k
    refine nX9_restore_4 (by omega) (fun h4 => by exfalso; omega) (fun h4 => ?_)
    refine qX9_restore_7 ?_
    refine qX9_restore_9 ?_
    exact k w Fr.rf h
end CALLS10
