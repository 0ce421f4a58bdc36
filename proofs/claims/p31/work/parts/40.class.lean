/-! the class: what its object shows -/
def eqA (x y : GV) : Prop := x.1 = y.1 ∧ x.2.1 = y.2.1 ∧ ∀ k, k < y.1 * y.2.1 → x.2.2 k = y.2.2 k
theorem eqA.rf {x : GV} : eqA x x := ⟨rfl, rfl, fun _ _ => rfl⟩
theorem eqA.tr {x y z : GV} (h : eqA x y) (h2 : eqA y z) : eqA x z := ⟨h.1.trans h2.1, h.2.1.trans h2.2.1, fun k hk => (h.2.2 k (by rw [h2.1, h2.2.1]; exact hk)).trans (h2.2.2 k hk)⟩
def okV (x : GV) : Prop := okD x.1 x.2.1 ∧ ∀ k, k < x.1 * x.2.1 → x.2.2 k ≤ 999
theorem eqG.eqA {x y : GV} (h : eqG x y) (hy : okV y) : eqA x y := ⟨h.1, h.2.1, fun k hk => h.2.2 k (Nat.lt_of_lt_of_le hk hy.1.2.2.2.2)⟩
theorem okV.eq {x y : GV} (h : okV y) (he : eqA x y) : okV x := ⟨by rw [he.1, he.2.1]; exact h.1, fun k hk => by rw [he.1, he.2.1] at hk; rw [he.2.2 k hk]; exact h.2 k hk⟩
abbrev xS : Type := (Nat → GV) × List (Nat → GV) × (Nat → Nat → GV) × (Nat → Bool) × Nat × (Nat → Nat)
abbrev lA (s : xS) : Nat → GV := s.1
abbrev lH (s : xS) : List (Nat → GV) := s.2.1
abbrev lS (s : xS) : Nat → Nat → GV := s.2.2.1
abbrev lv (s : xS) : Nat → Bool := s.2.2.2.1
abbrev ln (s : xS) : Nat := s.2.2.2.2.1
abbrev lc (s : xS) : Nat → Nat := s.2.2.2.2.2
def okT (t : Nat → GV) : Prop := ∀ i, i < 3 → okV (t i)
def eqT (t u : Nat → GV) : Prop := ∀ i, i < 3 → eqA (t i) (u i)
theorem eqT.rf {t : Nat → GV} : eqT t t := fun _ _ => eqA.rf
theorem eqT.tr {t u v : Nat → GV} (h : eqT t u) (h2 : eqT u v) : eqT t v := fun i hi => (h i hi).tr (h2 i hi)
theorem okT.eq {t u : Nat → GV} (h : okT u) (he : eqT t u) : okT t := fun i hi => (h i hi).eq (he i hi)
def okS (s : xS) : Prop := okT (lA s) ∧ (lH s).length ≤ 6 ∧ (∀ t ∈ (lH s), okT t) ∧ (∀ j, j < 2 → (lv s) j = true → okT ((lS s) j)) ∧ (ln s) ≤ 80 ∧ ∀ k, k < (ln s) → (lc s) k < 256
def dfT : Nat → GV := fun _ => (1, 1, fun _ => 0)
def nowP (G : sG) (w : sW) (b : Nat) (t : Nat → GV) : Prop := ∃ σ, stAt G w b σ ∧ eqT σ t
def hisP (G : sG) (w : sW) (h : Nat) (L : List (Nat → GV)) : Prop := ∃ nx H, nx < 6 ∧ hsAt G w h nx L.length H ∧ ∀ j, j < L.length → eqT (H ((nx + 5 - j) % 6)) (L.getD j dfT)
def sloP (G : sG) (w : sW) (p b : Nat) (S : Nat → Nat → GV) (v : Nat → Bool) : Prop := ∃ f : Nat → Option Nat, w.1 p = aQ G 5 2 f ∧ (∀ j, j < 2 → f j = some (b + 8 * j)) ∧ ∀ j, j < 2 → ∃ σ, stAt G w (b + 8 * j) σ ∧ (v j = true → eqT σ (S j))
def savP (G : sG) (w : sW) (p : Nat) (v : Nat → Bool) : Prop := ∃ f : Nat → Int32, w.1 p = aZ G 2 f ∧ ∀ j, j < 2 → f j = nI (if v j = true then 1 else 0)
def padP (G : sG) (w : sW) (p n : Nat) (c : Nat → Nat) : Prop := ∃ c' v2 v3 v4 v5, pAt G w p n c' v2 v3 v4 v5 ∧ (∀ k, c' k < 256) ∧ ∀ k, k < n → c' k = c k
/-- what is only used within a call: p + 13 cells -/
def scrP (G : sG) (w : sW) (p : Nat) : Prop := (∃ v : GV, gV G w p v) ∧ (∃ v : GV, gV G w (p + 2) v) ∧ (∃ L, wyAt G w (p + 4) L) ∧ (∃ s, paAt w (p + 7) s) ∧ (∃ n U fr pw, cvAt G w (p + 8) n U fr pw ∧ ∀ i, pw i < 4096) ∧ ∃ s, rgAt w (p + 12) s
def clO (w : sW) (B : Nat) : Prop := w.1 B = ob 8 [.ref (B + 1), .ref (B + 9), .ref (B + 59), .ref (B + 60), .ref (B + 61), .ref (B + 63), .ref (B + 65), .ref (B + 67), .ref (B + 70), .ref (B + 71), .ref (B + 75)]
def clAt (G : sG) (w : sW) (B : Nat) (s : xS) : Prop := clO w B ∧ nowP G w (B + 1) (lA s) ∧ hisP G w (B + 9) (lH s) ∧ sloP G w (B + 59) (B + 76) (lS s) (lv s) ∧ savP G w (B + 60) (lv s) ∧ padP G w (B + 61) (ln s) (lc s) ∧ scrP G w (B + 63)
section CLASS
variable {G : sG} {w w' : sW} {S : Nat → Prop}
theorem nowP.fr {b : Nat} {t : Nat → GV} (h : nowP G w b t) (hF : Fr w w' S) (hd : ∀ q, b ≤ q → q < b + 8 → ¬ S q) : nowP G w' b t := by
  obtain ⟨σ, h1, h2⟩ := h
  exact ⟨σ, h1.fr hF hd, h2⟩
theorem hisP.fr {b : Nat} {L : List (Nat → GV)} (h : hisP G w b L) (hF : Fr w w' S) (hd : ∀ q, b ≤ q → q < b + 50 → ¬ S q) : hisP G w' b L := by
  obtain ⟨nx, H, h0, h1, h2⟩ := h
  exact ⟨nx, H, h0, h1.fr hF hd, h2⟩
theorem sloP.fr {p b : Nat} {T : Nat → Nat → GV} {v : Nat → Bool} (h : sloP G w p b T v) (hF : Fr w w' S) (hp : ¬ S p) (hd : ∀ q, b ≤ q → q < b + 16 → ¬ S q) : sloP G w' p b T v := by
  obtain ⟨f, h1, h2, h3⟩ := h
  refine ⟨f, by rw [hF.2 _ hp]; exact h1, h2, fun j hj => ?_⟩
  obtain ⟨σ, h4, h5⟩ := h3 j hj
  exact ⟨σ, h4.fr hF (fun q a1 a2 => hd q (by omega) (by omega)), h5⟩
theorem savP.fr {p : Nat} {v : Nat → Bool} (h : savP G w p v) (hF : Fr w w' S) (hp : ¬ S p) : savP G w' p v := by
  obtain ⟨f, h1, h2⟩ := h
  exact ⟨f, by rw [hF.2 _ hp]; exact h1, h2⟩
theorem padP.fr {p n : Nat} {c : Nat → Nat} (h : padP G w p n c) (hF : Fr w w' S) (h1 : ¬ S p) (h2 : ¬ S (p + 1)) : padP G w' p n c := by
  obtain ⟨c', v2, v3, v4, v5, h3, h4, h5⟩ := h
  exact ⟨c', v2, v3, v4, v5, h3.fr hF h1 h2, h4, h5⟩
theorem gV.fr {g : Nat} {v : GV} (h : gV G w g v) (hF : Fr w w' S) (h1 : ¬ S g) (h2 : ¬ S (g + 1)) : gV G w' g v := gAt.fr h hF h1 h2
theorem paAt.fr {p : Nat} {s : P4} (h : paAt w p s) (hF : Fr w w' S) (h1 : ¬ S p) : paAt w' p s := by
  unfold paAt at h ⊢
  rw [hF.2 _ h1]
  exact h
theorem rgAt.fr {p : Nat} {s : P3} (h : rgAt w p s) (hF : Fr w w' S) (h1 : ¬ S p) : rgAt w' p s := ⟨by rw [hF.2 _ h1]; exact h.1, h.2⟩
theorem scrP.fr {p : Nat} (h : scrP G w p) (hF : Fr w w' S) (hd : ∀ q, p ≤ q → q < p + 13 → ¬ S q) : scrP G w' p := by
  obtain ⟨⟨a, h1⟩, ⟨b, h2⟩, ⟨L, h3⟩, ⟨s, h4⟩, ⟨n, U, fr, pw, h5, h6⟩, ⟨t, h7⟩⟩ := h
  refine ⟨⟨a, h1.fr hF (hd _ (by omega) (by omega)) (hd _ (by omega) (by omega))⟩, ⟨b, h2.fr hF (hd _ (by omega) (by omega)) (hd _ (by omega) (by omega))⟩, ⟨L, h3.fr hF (fun q a1 a2 => hd q (by omega) (by omega))⟩, ⟨s, h4.fr hF (hd _ (by omega) (by omega))⟩, ⟨n, U, fr, pw, h5.fr hF (fun q a1 a2 => hd q (by omega) (by omega)), h6⟩, ⟨t, h7.fr hF (hd _ (by omega) (by omega))⟩⟩
/-- only the cells of use within a call have changed -/
theorem clAt.scr {B : Nat} {s : xS} (h : clAt G w B s) (hF : Fr w w' (fun q => B + 63 ≤ q ∧ q < B + 76)) (hs : scrP G w' (B + 63)) : clAt G w' B s := by
  obtain ⟨h1, h2, h3, h4, h5, h6, h7⟩ := h
  refine ⟨?_, h2.fr hF (fun q a1 a2 => by omega), h3.fr hF (fun q a1 a2 => by omega), h4.fr hF (by omega) (fun q a1 a2 => by omega), h5.fr hF (by omega), h6.fr hF (by omega) (by omega), hs⟩
  unfold clO at h1 ⊢
  rw [hF.2 _ (by omega)]
  exact h1
theorem szS_eq {t u : Nat → GV} (h : eqT t u) : ∀ n, n ≤ 3 → szS t n = szS u n
  | 0, _ => rfl
  | n + 1, hn => by
    simp only [szS]
    rw [szS_eq h n (by omega), (h n (by omega)).1, (h n (by omega)).2.1]
end CLASS
noncomputable def spCount (s : xS) (x : Int32) : Int32 := cIf (x = nI 0) (nI (szS (lA s) 3)) (cIf (x = nI 1) (nI (ln s)) (cIf (x = nI 2) (nI (lH s).length) (-2)))
theorem tab_d {x : Int32} {n : Nat} (hn : n < 1000) (h : ¬ inB x (n + 1)) : x.toInt < 0 ∨ (n : Int) < x.toInt := by
  apply Classical.byContradiction
  intro hc
  apply h
  refine ⟨x.toInt.toNat, by omega, ?_⟩
  apply Int32.toInt_inj.mp
  rw [nI_Z]
  unfold iZ
  rw [Int32.toInt_ofInt_of_le (by omega) (by omega)]
  omega
section CALLS
variable {G : sG} {d : Nat} {P : sQ} {w : sW} {B : Nat} {s : xS}
theorem t_count {x : Int32} (h : clAt G w B s) (k : P (some (.int (spCount s x))) w) : wpM G (d + 3) yX9_count (0, 0) [.ref B, .int x] w P := by
  obtain ⟨h1, ⟨σ, h2, h2e⟩, ⟨nx, H, h30, h31, h32⟩, h4, h5, ⟨c', v2, v3, v4, v5, h61, h62, h63⟩, h7⟩ := h
  have h1 : w.1 B = _ := h1
  refine eX9_count ?_
  refine qX9_count_0 ?_
  by_cases hx : inB x 3
  · obtain ⟨i, hi, rfl⟩ := hx
    unfold spCount at k
    rcases (show i = 0 ∨ i = 1 ∨ i = 2 by omega) with rfl | rfl | rfl
    · rw [cIf_t rfl] at k
      refine qX9_count_1_0 ?_
      obtain ⟨f, s1, s2⟩ := id h2
      refine qX9_count_28 ?_
      refine qX9_count_29 (by assumption) ?_
      refine qX9_count_32 (by assumption) (Nat.le_of_ble_eq_true rfl) (t_stSize h2 ?_)
      refine qX9_count_35 ?_
      rw [szS_eq h2e 3 (Nat.le_refl 3)]
      exact k
    · rw [cIf_f (by decide), cIf_t rfl] at k
      refine qX9_count_1_1 ?_
      obtain ⟨p1, p2⟩ := id h61
      refine qX9_count_36 ?_
      refine qX9_count_37 (by assumption) ?_
      refine qX9_count_40 (by assumption) ?_
      refine qX9_count_43 ?_
      exact k
    · rw [cIf_f (by decide), cIf_f (by decide), cIf_t rfl] at k
      refine qX9_count_1_2 ?_
      obtain ⟨f, s1, s2⟩ := id h31
      refine qX9_count_44 ?_
      refine qX9_count_45 (by assumption) ?_
      refine qX9_count_48 (by assumption) ?_
      refine qX9_count_51 ?_
      exact k
  · refine qX9_count_1_d (tab_d (by decide) hx) ?_
    refine qX9_count_52 ?_
    refine qX9_count_54 ?_
    unfold spCount at k
    rw [cIf_f (fun z => hx ⟨0, by decide, z⟩), cIf_f (fun z => hx ⟨1, by decide, z⟩), cIf_f (fun z => hx ⟨2, by decide, z⟩)] at k
    exact k
end CALLS
