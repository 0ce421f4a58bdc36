def putN (u : Nat) : Nat := if vB 8 u = true then nB 8 u else 0
def putS (s : xS) (u : Nat) : xS := (lA s, lH s, lS s, lv s, ln s + putN u, fun j => if ln s ≤ j ∧ j < ln s + putN u then u / 2 ^ (8 * (putN u - 1 - (j - ln s))) % 256 else lc s j)
def spPut (s : xS) (u : Nat) : Int32 × xS := if putN u = 0 then (-2, s) else if 80 < ln s + putN u then (-4, s) else (nI (ln s + putN u), putS s u)
theorem nB_le : ∀ m u, nB m u ≤ m
  | 0, _ => Nat.le_refl 0
  | m + 1, u => by
    have := nB_le m (u / 256)
    simp only [nB]
    split <;> omega
section CALLS6
variable {G : sG} {d : Nat} {P : sQ} {w : sW} {B : Nat} {s : xS}
theorem t_put {u : Nat} (hu : u < 2 ^ 64) (h : clAt G w B s) (ho : okS s) (k : ∀ w', Fr w w' (fun q => B ≤ q ∧ q < B + 92) → clAt G w' B (spPut s u).2 → P (some (.int (spPut s u).1)) w') : wpM G (d + 3) yX9_put (0, 0) [.ref B, .long (lU u)] w P := by
  have h0 := h.1
  unfold clO at h0
  obtain ⟨h1, h2, h3, h4, h5, ⟨c', v2, v3, v4, v5, p1, p2, p3⟩, h7⟩ := id h
  obtain ⟨q1, q2⟩ := id p1
  have hn := ho.2.2.2.2.1
  have hm : putN u ≤ 8 := by
    unfold putN
    split
    · exact nB_le 8 _
    · omega
  unfold spPut at k
  refine eX9_put ?_
  refine qX9_put_0 ?_
  refine qX9_put_1 (Nat.le_of_ble_eq_true rfl) (t_charactersIn hu ?_)
  have e : (if vB 8 u = true then nB 8 u else 0) = putN u := rfl
  rw [e]
  refine qX9_put_4 rfl ?_
  refine qX9_put_5 ?_
  refine nX9_put_6 (by omega) (fun h6 => ?_) (fun h6 => ?_)
  · rw [if_neg h6] at k
    refine qX9_put_12 ?_
    refine qX9_put_13 (by assumption) ?_
    refine qX9_put_16 (by assumption) ?_
    refine qX9_put_19 ?_
    first | refine nX9_put_20 ?_ | refine qX9_put_20 ?_
    refine qX9_put_21 ?_
    refine nX9_put_23 (by omega) (by omega) (fun h23 => ?_) (fun h23 => ?_)
    · rw [if_neg (by omega)] at k
      refine qX9_put_29 ?_
      refine qX9_put_30 (by assumption) ?_
      refine qX9_put_33 ?_
      refine qX9_put_34 ?_
      refine qX9_put_35 (by assumption) (Nat.le_of_ble_eq_true rfl) (t_append p1 hu hm (by omega) (fun w' c2 hF hp hc2 => ?_))
      have e0 : w'.1 B = _ := (hF.2 B (by omega)).trans h0
      obtain ⟨r1, r2⟩ := id hp
      refine qX9_put_38 ?_
      refine qX9_put_39 (by assumption) ?_
      refine qX9_put_42 (by assumption) ?_
      refine qX9_put_45 ?_
      refine k w' (hF.mono (fun q hq => by omega)) ⟨e0, h2.fr hF (fun q a1 a2 => by omega), h3.fr hF (fun q a1 a2 => by omega), h4.fr hF (by omega) (fun q a1 a2 => by omega), h5.fr hF (by omega), ⟨c2, v2, v3, v4, v5, hp, fun j => ?_, fun j hj => ?_⟩, h7.fr hF (fun q a1 a2 => by omega)⟩
      · rw [hc2]
        split
        · exact Nat.mod_lt _ (by decide)
        · exact p2 j
      · rw [hc2]
        show _ = (if ln s ≤ j ∧ j < ln s + putN u then u / 2 ^ (8 * (putN u - 1 - (j - ln s))) % 256 else lc s j)
        have hj : j < ln s + putN u := hj
        by_cases hq : ln s ≤ j ∧ j < ln s + putN u
        · rw [if_pos hq, if_pos hq]
        · rw [if_neg hq, if_neg hq]
          exact p3 j (by omega)
    · rw [if_pos (by omega)] at k
      refine qX9_put_26 ?_
      refine qX9_put_28 ?_
      exact k w Fr.rf h
  · rw [if_pos h6] at k
    refine qX9_put_9 ?_
    refine qX9_put_11 ?_
    exact k w Fr.rf h
end CALLS6
