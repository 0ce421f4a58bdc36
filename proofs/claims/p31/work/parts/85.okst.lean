/-! every call leaves a good state -/
theorem cIf_i {α : Type} {Q : α → Prop} {p : Prop} {a b : α} (ha : p → Q a) (hb : Q b) : Q (cIf p a b) := by
  by_cases h : p
  · rw [cIf_t h]; exact ha h
  · rw [cIf_f h]; exact hb
theorem swL_le {b : Bool} {R C n o B : Nat} {a : Nat → Nat} (hd : okD R C) (ha : ∀ k, k < R * C → a k ≤ B) (hn : n < lnN b R C) (ho : o < lnN b R C) : ∀ k, k < R * C → swL b C n o a k ≤ B := fun k hk => by
  have hp := (lp_lt (b := b) hk).2
  unfold swL
  split
  · exact ha _ (plN_lt hd ho hp)
  · split
    · exact ha _ (plN_lt hd hn hp)
    · exact ha k hk
theorem okD.dr {b : Bool} {R C : Nat} (h : okD R C) (h1 : ¬ lnN b R C = 1) : okD (lnN b (R - 1) R) (lnN b C (C - 1)) := by
  obtain ⟨d1, d2, d3, d4, d5⟩ := h
  cases b
  · have h1 : ¬ C = 1 := h1
    refine ⟨d1, d2, ?_, ?_, ?_⟩
    · show 1 ≤ C - 1
      omega
    · show C - 1 ≤ 4
      omega
    · show R * (C - 1) ≤ 12
      exact Nat.le_trans (Nat.mul_le_mul_left R (Nat.sub_le C 1)) d5
  · have h1 : ¬ R = 1 := h1
    refine ⟨?_, ?_, d3, d4, ?_⟩
    · show 1 ≤ R - 1
      omega
    · show R - 1 ≤ 4
      omega
    · show (R - 1) * C ≤ 12
      exact Nat.le_trans (Nat.mul_le_mul_right C (Nat.sub_le R 1)) d5
section OKS
variable {s : xS}
theorem ok_wipe (ho : okS s) : okS (spWipe s) := ho.pad0
theorem ok_put {u : Nat} (ho : okS s) : okS (spPut s u).2 := by
  unfold spPut
  split
  · exact ho
  · split
    · exact ho
    · next h1 h2 =>
      obtain ⟨q1, q2, q3, q4, q5, q6⟩ := ho
      refine ⟨q1, q2, q3, q4, ?_, fun k hk => ?_⟩
      · show ln s + putN u ≤ 80
        omega
      · have hk : k < ln s + putN u := hk
        show (if ln s ≤ k ∧ k < ln s + putN u then u / 2 ^ (8 * (putN u - 1 - (k - ln s))) % 256 else lc s k) < 256
        split
        · exact Nat.mod_lt _ (by decide)
        · exact q6 k (by omega)
theorem ok_set {x y z v : Int32} (ho : okS s) : okS (spSet s x y z v).2 := by
  unfold spSet
  refine cIf_i (Q := fun r : Int32 × xS => okS r.2) (fun h => cIf_i (Q := fun r : Int32 × xS => okS r.2) (fun h2 => ?_) ho) ho
  have hx := (inB_nN (by decide) h.1).1
  have hv := (inB_nN (by decide) h2).1
  have hg := ho.1 _ hx
  exact ho.rem.up ⟨hg.1, updN_le hg.2 (by omega)⟩
theorem ok_drop {b : Bool} {x z : Int32} (ho : okS s) : okS (spDrop s x b z).2 := by
  unfold spDrop
  refine cIf_i (Q := fun r : Int32 × xS => okS r.2) (fun h => ?_) ho
  have hx := (inB_nN (by decide) h.1).1
  have hg := ho.1 _ hx
  have hR := hg.1.2.1
  have hC := hg.1.2.2.2.1
  have hl : lnN b (lA s (nN x)).1 (lA s (nN x)).2.1 ≤ 4 := by cases b <;> assumption
  have hl1 : 1 ≤ lnN b (lA s (nN x)).1 (lA s (nN x)).2.1 := by cases b; exact hg.1.2.2.1; exact hg.1.1
  have hz := (inB_nN (by omega) h.2).1
  split
  · exact ho
  · next h1 => exact ho.rem.up ⟨hg.1.dr h1, fun k hk => hg.2 _ (rm_lt hg.1 hz (by omega) hk)⟩
theorem ok_exchange {b : Bool} {x z o : Int32} (ho : okS s) : okS (spExchange s x b z o).2 := by
  unfold spExchange
  refine cIf_i (Q := fun r : Int32 × xS => okS r.2) (fun h => cIf_i (Q := fun r : Int32 × xS => okS r.2) (fun _ => ho) ?_) ho
  have hx := (inB_nN (by decide) h.1).1
  have hg := ho.1 _ hx
  have hR := hg.1.2.1
  have hC := hg.1.2.2.2.1
  have hl : lnN b (lA s (nN x)).1 (lA s (nN x)).2.1 ≤ 4 := by cases b <;> assumption
  exact ho.rem.up ⟨hg.1, swL_le hg.1 hg.2 (inB_nN (by omega) h.2.1).1 (inB_nN (by omega) h.2.2).1⟩
theorem ok_turn {x : Int32} (ho : okS s) : okS (spTurn s x).2 := by
  unfold spTurn
  refine cIf_i (Q := fun r : Int32 × xS => okS r.2) (fun h => ?_) ho
  exact ho.rem.up (ho.1 _ (inB_nN (by decide) h).1).tu
theorem ok_close {x : Int32} (ho : okS s) : okS (spClose s x).2 := by
  unfold spClose
  refine cIf_i (Q := fun r : Int32 × xS => okS r.2) (fun h => ?_) ho
  have hg := ho.1 _ (inB_nN (by decide) h).1
  split
  · next he =>
    have h1 : okD (lA s (nN x)).1 (lA s (nN x)).1 := by
      have := hg.1
      rw [← he] at this
      exact this
    have h2 : ∀ k, k < (lA s (nN x)).1 * (lA s (nN x)).1 → (lA s (nN x)).2.2 k ≤ 999 := by
      have := hg.2
      rw [← he] at this
      exact this
    exact ho.rem.up ⟨h1, fwB_le h2 _⟩
  · exact ho
theorem ok_product {x y z : Int32} (ho : okS s) : okS (spProduct s x y z).2 := by
  unfold spProduct
  refine cIf_i (Q := fun r : Int32 × xS => okS r.2) (fun h => ?_) ho
  have hx := ho.1 _ (inB_nN (by decide) h.1).1
  have hy := ho.1 _ (inB_nN (by decide) h.2.1).1
  split
  · split
    · exact ho
    · next h1 =>
      refine ho.rem.up ⟨⟨hx.1.1, hx.1.2.1, hy.1.2.2.1, hy.1.2.2.2.1, ?_⟩, fun k hk => ?_⟩
      · show (lA s (nN x)).1 * (lA s (nN y)).2.1 ≤ 12
        omega
      · exact Nat.le_trans (le_mxF hk) (Nat.le_of_not_lt (fun z => h1 (Or.inr z)))
  · exact ho
theorem ok_raise {b : Bool} {x z v : Int32} (ho : okS s) : okS (spRaise s x b z v).2 := by
  unfold spRaise
  refine cIf_i (Q := fun r : Int32 × xS => okS r.2) (fun h => cIf_i (Q := fun r : Int32 × xS => okS r.2) (fun _ => cIf_i (Q := fun r : Int32 × xS => okS r.2) (fun hk => ?_) ho) ho) ho
  have hg := ho.1 _ (inB_nN (by decide) h.1).1
  exact ho.rem.up ⟨hg.1, adL_le hg.2 hk⟩
theorem ok_load {x : Int32} (ho : okS s) : okS (spLoad s x).2 := by
  unfold spLoad
  refine cIf_i (Q := fun r : Int32 × xS => okS r.2) (fun h => ?_) ho
  split
  · next h1 =>
    split
    · exact ho
    · next h2 =>
      split
      · next h3 => exact (ho.rem.up (ld_ok h1 h2 h3).1).pad0
      · exact ho
  · exact ho
end OKS
/-! what the other object's calls leave -/
theorem clAt.fr {G : sG} {w w' : sW} {S : Nat → Prop} {B : Nat} {s : xS} (h : clAt G w B s) (hF : Fr w w' S) (hd : ∀ q, B ≤ q → q < B + 92 → ¬ S q) : clAt G w' B s := by
  obtain ⟨h1, h2, h3, h4, h5, h6, h7⟩ := h
  refine ⟨?_, h2.fr hF (fun q a1 a2 => hd q (by omega) (by omega)), h3.fr hF (fun q a1 a2 => hd q (by omega) (by omega)), h4.fr hF (hd _ (by omega) (by omega)) (fun q a1 a2 => hd q (by omega) (by omega)), h5.fr hF (hd _ (by omega) (by omega)), h6.fr hF (hd _ (by omega) (by omega)) (hd _ (by omega) (by omega)), h7.fr hF (fun q a1 a2 => hd q (by omega) (by omega))⟩
  unfold clO at h1 ⊢
  rw [hF.2 _ (hd _ (by omega) (by omega))]
  exact h1
