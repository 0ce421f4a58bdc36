theorem fF_cong {c c' : Nat → Nat} : ∀ m k v, (∀ j, k ≤ j → j < k + m → c j = c' j) → fF c m k v = fF c' m k v := by
  intro m
  induction m with
  | zero => intro k v _; rfl
  | succ m ih =>
    intro k v h
    have h1 := h k (Nat.le_refl k) (by omega)
    have h2 : ∀ v, fF c m (k + 1) v = fF c' m (k + 1) v := fun v => ih (k + 1) v (fun j a b => h j (by omega) (by omega))
    simp only [fF, h1, h2]
def spFault (s : xS) : Int32 := fI (fF (lc s) (ln s) 0 none)
def spWipe (s : xS) : xS := (lA s, lH s, lS s, lv s, 0, lc s)
section CALLS5
variable {G : sG} {d : Nat} {P : sQ} {w : sW} {B : Nat} {s : xS}
theorem t_wipe (h : clAt G w B s) (k : ∀ w', Fr w w' (fun q => B ≤ q ∧ q < B + 92) → clAt G w' B (spWipe s) → P (some (.int (nI (ln s)))) w') : wpM G (d + 1) yX9_wipe (0, 0) [.ref B] w P := by
  have h0 := h.1
  unfold clO at h0
  obtain ⟨h1, h2, h3, h4, h5, ⟨c', v2, v3, v4, v5, p1, p2, p3⟩, h7⟩ := h
  obtain ⟨q1, q2⟩ := id p1
  refine eX9_wipe ?_
  refine qX9_wipe_0 ?_
  refine qX9_wipe_1 (by assumption) ?_
  refine qX9_wipe_4 (by assumption) ?_
  refine qX9_wipe_7 ?_
  refine qX9_wipe_8 ?_
  refine qX9_wipe_9 (by assumption) ?_
  refine qX9_wipe_12 ?_
  refine qX9_wipe_13 (by assumption) ?_
  generalize hw1 : s_up w (B + 61) _ = w1
  have hF : Fr w w1 (fun q => q = B + 61) := by rw [← hw1]; exact Fr.rf.up rfl
  refine qX9_wipe_16 ?_
  refine qX9_wipe_17 ?_
  refine k w1 (hF.mono (fun q hq => by omega)) ⟨?_, h2.fr hF (fun q a1 a2 => by omega), h3.fr hF (fun q a1 a2 => by omega), h4.fr hF (by omega) (fun q a1 a2 => by omega), h5.fr hF (by omega), ⟨c', v2, v3, v4, v5, ⟨by rw [← hw1]; exact s_upS, by rw [← hw1, s_upN (by omega)]; exact q2⟩, p2, fun j hj => absurd hj (Nat.not_lt_zero j)⟩, h7.fr hF (fun q a1 a2 => by omega)⟩
  unfold clO
  rw [hF.2 _ (by omega)]
  exact h0
end CALLS5
