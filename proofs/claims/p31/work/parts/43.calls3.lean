theorem gdF_cong {f g : Nat → Int} : ∀ {n}, (∀ k, k < n → f k = g k) → gdF f n = gdF g n
  | 0, _ => rfl
  | n + 1, h => by
    simp only [gdF]
    rw [gdF_cong (fun k hk => h k (by omega)), h n (by omega)]
theorem fcZ_cong {R C : Nat} {a b : Nat → Nat} (hd : okD R C) (h : ∀ k, k < R * C → a k = b k) {c q : Nat} (hc : c < C) (hq : q < C) : fcZ R C a c q = fcZ R C b c q := by
  unfold fcZ
  refine gdF_cong (fun r hr => ?_)
  rw [h _ (hd.in hr hc), h _ (hd.in hr hq)]
noncomputable def spFactor (s : xS) (x y z : Int32) : Int32 := cIf (inB x 3 ∧ inB y (lA s (nN x)).2.1 ∧ inB z (lA s (nN x)).2.1) (cIf (y = z) (-2) (iZ (fcZ (lA s (nN x)).1 (lA s (nN x)).2.1 (lA s (nN x)).2.2 (nN y) (nN z)) + nI 1000)) (-1)
section CALLS4
variable {G : sG} {d : Nat} {P : sQ} {w : sW} {B : Nat} {s : xS}
set_option maxHeartbeats 400000 in
theorem t_factor {x y z : Int32} (h : clAt G w B s) (ho : okS s) (k : P (some (.int (spFactor s x y z))) w) : wpM G (d + 4) yX9_factor (0, 0) [.ref B, .int x, .int y, .int z] w P := by
  have h0 := h.1
  unfold clO at h0
  unfold spFactor at k
  refine eX9_factor ?_
  refine qX9_factor_0 ?_
  refine qX9_factor_1 (Nat.le_of_ble_eq_true rfl) (t_isArray (fun i hi hx => ?_) (fun hx => ?_))
  · subst hx
    obtain ⟨g1, ⟨f, g2, g3⟩, a, g4, g5, g6, g7⟩ := clG h ho hi
    have b1 := g5.2.1
    have b2 := g5.2.2.2.1
    rw [nN_nI (by omega)] at k
    obtain ⟨q1, q2⟩ := id g4
    refine nX9_factor_4 (by omega) (fun h4 => by exfalso; omega) (fun h4 => ?_)
    refine qX9_factor_7 ?_
    refine qX9_factor_8 (by assumption) ?_
    refine qX9_factor_11 (by assumption) ?_
    refine qX9_factor_14 ?_
    refine nX9_factor_15 g2 (Or.inl rfl) hi (by decide) g3 ?_
    refine qX9_factor_16 ?_
    refine qX9_factor_17 ?_
    refine qX9_factor_18 (by assumption) (Nat.le_of_ble_eq_true rfl) (t_hasLine false g4 (by omega) (by omega) (fun c hc hy => ?_) (fun hno => ?_))
    · have hc : c < (lA s i).2.1 := hc
      subst hy
      refine nX9_factor_21 (by omega) (fun h21 => by exfalso; omega) (fun h21 => ?_)
      refine qX9_factor_24 ?_
      refine qX9_factor_25 (by assumption) ?_
      refine qX9_factor_28 (by assumption) ?_
      refine qX9_factor_31 ?_
      refine nX9_factor_32 g2 (Or.inl rfl) hi (by decide) g3 ?_
      refine qX9_factor_33 ?_
      refine qX9_factor_34 ?_
      refine qX9_factor_35 (by assumption) (Nat.le_of_ble_eq_true rfl) (t_hasLine false g4 (by omega) (by omega) (fun q hq hz => ?_) (fun hno => ?_))
      · have hq : q < (lA s i).2.1 := hq
        subst hz
        rw [cIf_t ⟨inB_nI hi, inB_nI hc, inB_nI hq⟩, nN_nI (by omega), nN_nI (by omega), ← fcZ_cong g5 g7 hc hq] at k
        refine nX9_factor_38 (by omega) (fun h38 => ?_) (fun h38 => by exfalso; omega)
        refine qX9_factor_43 ?_
        refine qX9_factor_44 ?_
        refine nX9_factor_45 (by omega) (by omega) (fun h45 => ?_) (fun h45 => ?_)
        · rw [cIf_f (fun e => h45 (by rw [nI_eq (by omega) (by omega)] at e; exact e))] at k
          refine qX9_factor_51 ?_
          refine qX9_factor_52 (by assumption) ?_
          refine qX9_factor_55 (by assumption) ?_
          refine qX9_factor_58 ?_
          refine nX9_factor_59 g2 (Or.inl rfl) hi (by decide) g3 ?_
          refine qX9_factor_60 ?_
          refine qX9_factor_61 ?_
          refine qX9_factor_62 (Nat.le_of_ble_eq_true rfl) (t_greatestDifference g4 g5 g6 hc hq ?_)
          refine qX9_factor_65 ?_
          refine qX9_factor_68 ?_
          refine qX9_factor_69 ?_
          exact k
        · rw [cIf_t (by rw [h45])] at k
          refine qX9_factor_48 ?_
          refine qX9_factor_50 ?_
          exact k
      · rw [cIf_f (fun e => hno e.2.2)] at k
        refine nX9_factor_38 (by omega) (fun h38 => by exfalso; omega) (fun h38 => ?_)
        refine qX9_factor_41 ?_
        refine qX9_factor_42 ?_
        exact k
    · rw [cIf_f (fun e => hno e.2.1)] at k
      refine nX9_factor_21 (by omega) (fun h21 => ?_) (fun h21 => by exfalso; omega)
      refine qX9_factor_41 ?_
      refine qX9_factor_42 ?_
      exact k
  · rw [cIf_f (fun e => hx e.1)] at k
    refine nX9_factor_4 (by omega) (fun h4 => ?_) (fun h4 => by exfalso; omega)
    refine qX9_factor_41 ?_
    refine qX9_factor_42 ?_
    exact k
end CALLS4
