/-! shortest ways in two orders -/
def wv (n : Nat) (E : Nat → Nat) (i j x : Nat) : Prop := E (i * n + j) ≤ x ∨ (∃ m, m < n ∧ E (i * n + m) + E (m * n + j) ≤ x) ∨ ∃ m p, m < n ∧ p < n ∧ E (i * n + m) + E (m * n + p) + E (p * n + j) ≤ x
section WV
variable {n : Nat} {E : Nat → Nat}
theorem wv_le {i j x y : Nat} (h : wv n E i j x) (hx : x ≤ y) : wv n E i j y := by
  rcases h with h | ⟨m, hm, h⟩ | ⟨m, p, hm, hp, h⟩
  · exact Or.inl (by omega)
  · exact Or.inr (Or.inl ⟨m, hm, by omega⟩)
  · exact Or.inr (Or.inr ⟨m, p, hm, hp, by omega⟩)
theorem wv_ext {i j k x : Nat} (hn : n ≤ 3) (hi : i < n) (hj : j < n) (h : wv n E i j x) : wv n E i k (x + E (j * n + k)) := by
  rcases h with h | ⟨m, hm, h⟩ | ⟨m, p, hm, hp, h⟩
  · exact Or.inr (Or.inl ⟨j, hj, by omega⟩)
  · exact Or.inr (Or.inr ⟨m, j, hm, hj, by omega⟩)
  · by_cases c1 : i = m
    · subst c1
      exact Or.inr (Or.inr ⟨p, j, hp, hj, by omega⟩)
    · by_cases c2 : i = p
      · subst c2
        exact Or.inr (Or.inl ⟨j, hj, by omega⟩)
      · by_cases c3 : i = j
        · subst c3
          exact Or.inl (by omega)
        · by_cases c4 : m = p
          · subst c4
            exact Or.inr (Or.inr ⟨m, j, hm, hj, by omega⟩)
          · by_cases c5 : m = j
            · subst c5
              exact Or.inr (Or.inl ⟨m, hm, by omega⟩)
            · by_cases c6 : p = j
              · subst c6
                exact Or.inr (Or.inr ⟨m, p, hm, hp, by omega⟩)
              · omega
theorem wv_cat {i j k x y : Nat} (hn : n ≤ 3) (hi : i < n) (hj : j < n) (h : wv n E i j x) (h2 : wv n E j k y) : wv n E i k (x + y) := by
  rcases h2 with h2 | ⟨m, hm, h2⟩ | ⟨m, p, hm, hp, h2⟩
  · exact wv_le (wv_ext (k := k) hn hi hj h) (by omega)
  · have e1 := wv_ext (k := m) hn hi hj h
    exact wv_le (wv_ext (k := k) hn hi hm e1) (by omega)
  · have e1 := wv_ext (k := m) hn hi hj h
    have e2 := wv_ext (k := p) hn hi hm e1
    exact wv_le (wv_ext (k := k) hn hi hp e2) (by omega)
/-- all entries are sums along ways -/
def wvA (n : Nat) (E g : Nat → Nat) : Prop := ∀ i j, i < n → j < n → wv n E i j (g (i * n + j))
theorem wvA_upd {g : Nat → Nat} {i j m v : Nat} (hn : n ≤ 3) (hi : i < n) (hj : j < n) (hm : m < n) (h : wvA n E g) (hv : v = g (i * n + j) ∨ v = g (i * n + m) + g (m * n + j)) : wvA n E (updN g (i * n + j) v) := by
  intro i' j' hi' hj'
  show wv n E i' j' (if i' * n + j' = i * n + j then v else g (i' * n + j'))
  by_cases he : i' * n + j' = i * n + j
  · have e1 : i' = i := by
      have h1 : (i' * n + j') / n = (i * n + j) / n := by rw [he]
      rw [dv1 hj', dv1 hj] at h1
      exact h1
    have e2 : j' = j := by
      have h1 : (i' * n + j') % n = (i * n + j) % n := by rw [he]
      rw [md1 hj', md1 hj] at h1
      exact h1
    rw [if_pos he, e1, e2]
    rcases hv with hv | hv
    · rw [hv]; exact h i j hi hj
    · rw [hv]; exact wv_cat hn hi hm (h i m hi hm) (h m j hm hj)
  · rw [if_neg he]
    exact h i' j' hi' hj'
theorem fwK_eq {b : Nat} {g : Nat → Nat} (hb : b < n) : ∀ k, k ≤ n * n → ∀ q, q < n * n → fwK n b k g q = if q < k then min (g q) (g (q / n * n + b) + g (b * n + q % n)) else g q
  | 0, _, q, _ => by simp [fwK]
  | k + 1, hk, q, hq => by
    have ih := fwK_eq (g := g) hb k (by omega)
    have hkl : k < n * n := by omega
    have k1 := dvlt hkl
    have k2 : k % n < n := Nat.mod_lt _ (by omega)
    have r1 : fwK n b k g (k / n * n + b) = g (k / n * n + b) := by
      rw [ih _ (ml1 k1 hb), dv1 hb, md1 hb]
      split
      · exact Nat.min_eq_left (Nat.le_add_right _ _)
      · rfl
    have r2 : fwK n b k g (b * n + k % n) = g (b * n + k % n) := by
      rw [ih _ (ml1 hb k2), dv1 k2, md1 k2]
      split
      · exact Nat.min_eq_left (Nat.le_add_left _ _)
      · rfl
    show (if q = k then min (fwK n b k g k) (fwK n b k g (k / n * n + b) + fwK n b k g (b * n + k % n)) else fwK n b k g q) = _
    by_cases hqk : q = k
    · subst hqk
      rw [if_pos rfl, if_pos (by omega), r1, r2, ih q hq, if_neg (by omega)]
    · rw [if_neg hqk, ih q hq]
      by_cases h1 : q < k
      · rw [if_pos h1, if_pos (by omega)]
      · rw [if_neg h1, if_neg (by omega)]
def fwI (n : Nat) (E g : Nat → Nat) (b : Nat) : Prop := (∀ q, q < n * n → g q ≤ E q) ∧ wvA n E g ∧ ∀ m i j, m < b → i < n → j < n → g (i * n + j) ≤ g (i * n + m) + g (m * n + j)
theorem fwI_all (hn : n ≤ 3) : ∀ b, b ≤ n → fwI n E (fwB n b E) b
  | 0, _ => ⟨fun _ _ => Nat.le_refl _, fun i j hi hj => Or.inl (Nat.le_refl _), fun m _ _ hm => absurd hm (Nat.not_lt_zero m)⟩
  | b + 1, hb => by
    obtain ⟨h1, h2, h3⟩ := fwI_all hn b (by omega)
    have hbn : b < n := by omega
    have he : ∀ i j, i < n → j < n → fwB n (b + 1) E (i * n + j) = min (fwB n b E (i * n + j)) (fwB n b E (i * n + b) + fwB n b E (b * n + j)) := fun i j hi hj => by
      show fwK n b (n * n) (fwB n b E) (i * n + j) = _
      rw [fwK_eq hbn _ (Nat.le_refl _) _ (ml1 hi hj), if_pos (ml1 hi hj), dv1 hj, md1 hj]
    generalize fwB n b E = g at *
    generalize fwB n (b + 1) E = g' at *
    refine ⟨fun q hq => ?_, fun i j hi hj => ?_, fun m i j hm hi hj => ?_⟩
    · have q1 := dvlt hq
      have q2 : q % n < n := Nat.mod_lt _ (by omega)
      have := he (q / n) (q % n) q1 q2
      rw [mdv] at this
      rw [this]
      exact Nat.le_trans (Nat.min_le_left _ _) (h1 q hq)
    · rw [he i j hi hj]
      rcases Nat.le_total (g (i * n + j)) (g (i * n + b) + g (b * n + j)) with hc | hc
      · rw [Nat.min_eq_left hc]; exact h2 i j hi hj
      · rw [Nat.min_eq_right hc]; exact wv_cat hn hi hbn (h2 i b hi hbn) (h2 b j hbn hj)
    · have hm' : m < n := by omega
      rw [he i j hi hj, he i m hi hm', he m j hm' hj]
      by_cases hmb : m = b
      · subst hmb
        omega
      · have a1 := h3 m i j (by omega) hi hj
        have a2 := h3 m i b (by omega) hi hbn
        have a3 := h3 m b j (by omega) hbn hj
        omega
theorem fw_low {i j x : Nat} (hn : n ≤ 3) (hi : i < n) (hj : j < n) (h : wv n E i j x) : fwB n n E (i * n + j) ≤ x := by
  obtain ⟨h1, _, h3⟩ := fwI_all (n := n) (E := E) hn n (Nat.le_refl _)
  have e : ∀ i j, i < n → j < n → fwB n n E (i * n + j) ≤ E (i * n + j) := fun i j hi hj => h1 _ (ml1 hi hj)
  rcases h with h | ⟨m, hm, h⟩ | ⟨m, p, hm, hp, h⟩
  · have := e i j hi hj
    omega
  · have := e i m hi hm
    have := e m j hm hj
    have := h3 m i j hm hi hj
    omega
  · have := e i m hi hm
    have := e m p hm hp
    have := e p j hp hj
    have := h3 m i j hm hi hj
    have := h3 p m j hp hm hj
    omega
/-- the law's rounds -/
def rdC (n : Nat) (E g0 : Nat → Nat) (b : Nat) (cur : Nat → Nat) : Prop := (∀ q, q < n * n → cur q ≤ g0 q) ∧ (∀ r, r < b → cur (r / n) ≤ g0 (r / n / n * n + r % n) + g0 (r % n * n + r / n % n)) ∧ wvA n E cur
def upC (n : Nat) (E : Nat → Nat) (t : Nat) (g : Nat → Nat) : Prop := (∀ q, q < n * n → g q ≤ E q) ∧ wvA n E g ∧ (1 ≤ t → ∀ i m j, i < n → m < n → j < n → g (i * n + j) ≤ E (i * n + m) + E (m * n + j)) ∧ (2 ≤ t → ∀ i m p j, i < n → m < n → p < n → j < n → g (i * n + j) ≤ E (i * n + m) + E (m * n + p) + E (p * n + j))
theorem rdC_step {g0 cur : Nat → Nat} {k m v : Nat} (hn : n ≤ 3) (hk : k < n * n) (hm : m < n) (h : rdC n E g0 (k * n + m) cur) (hv : v = cur (k / n * n + m) + cur (m * n + k % n)) : rdC n E g0 (k * n + (m + 1)) (if v < cur k then updN cur k v else cur) := by
  obtain ⟨h1, h2, h3⟩ := h
  have k1 := dvlt hk
  have k2 : k % n < n := Nat.mod_lt _ (by omega)
  have b1 := h1 _ (ml1 k1 hm)
  have b2 := h1 _ (ml1 hm k2)
  by_cases hc : v < cur k
  · rw [if_pos hc]
    have o : ∀ q, updN cur k v q = if q = k then v else cur q := fun _ => rfl
    refine ⟨fun q hq => ?_, fun r hr => ?_, ?_⟩
    · rw [o]
      split
      · next he => rw [he]; exact Nat.le_trans (Nat.le_of_lt hc) (h1 k hk)
      · exact h1 q hq
    · rw [o]
      by_cases hr2 : r < k * n + m
      · have := h2 r hr2
        split
        · next he => rw [he] at this ⊢; omega
        · exact this
      · have hr3 : r = k * n + m := by omega
        rw [hr3, dv1 hm, md1 hm, if_pos rfl]
        omega
    · have hw := wvA_upd (v := v) hn k1 k2 hm h3 (Or.inr hv)
      rw [mdv] at hw
      exact hw
  · rw [if_neg hc]
    refine ⟨h1, fun r hr => ?_, h3⟩
    by_cases hr2 : r < k * n + m
    · exact h2 r hr2
    · have hr3 : r = k * n + m := by omega
      rw [hr3, dv1 hm, md1 hm]
      omega
theorem upC_next {g0 cur : Nat → Nat} {t : Nat} (h : rdC n E g0 (n * n * n) cur) (hu : upC n E t g0) : upC n E (t + 1) cur := by
  obtain ⟨h1, h2, h3⟩ := h
  obtain ⟨u1, u2, u3, u4⟩ := hu
  have e : ∀ i m j, i < n → m < n → j < n → cur (i * n + j) ≤ g0 (i * n + m) + g0 (m * n + j) := fun i m j hi hm hj => by
    have := h2 ((i * n + j) * n + m) (ml1 (ml1 hi hj) hm)
    rw [dv1 hm, md1 hm, dv1 hj, md1 hj] at this
    exact this
  refine ⟨fun q hq => Nat.le_trans (h1 q hq) (u1 q hq), h3, fun _ i m j hi hm hj => ?_, fun ht i m p j hi hm hp hj => ?_⟩
  · have a1 := e i m j hi hm hj
    have a2 := u1 _ (ml1 hi hm)
    have a3 := u1 _ (ml1 hm hj)
    omega
  · have a1 := e i p j hi hp hj
    have a2 := u3 (by omega) i m p hi hm hp
    have a3 := u1 _ (ml1 hp hj)
    omega
theorem upC_eq {g : Nat → Nat} (h1 : 1 ≤ n) (hn : n ≤ 3) (h : upC n E n g) : ∀ q, q < n * n → g q = fwB n n E q := by
  obtain ⟨u1, u2, u3, u4⟩ := h
  intro q hq
  have q1 := dvlt hq
  have q2 : q % n < n := Nat.mod_lt _ (by omega)
  have a1 := fw_low hn q1 q2 (u2 _ _ q1 q2)
  have a2 := (fwI_all (n := n) (E := E) hn n (Nat.le_refl _)).2.1 _ _ q1 q2
  rw [mdv] at a1 a2
  apply Nat.le_antisymm _ a1
  rcases a2 with a2 | ⟨m, hm, a2⟩ | ⟨m, p, hm, hp, a2⟩
  · rw [mdv] at a2
    exact Nat.le_trans (u1 q hq) a2
  · have := u3 h1 (q / n) m (q % n) q1 hm q2
    rw [mdv] at this
    omega
  · by_cases h2 : n = 1
    · subst h2
      have e0 : m = 0 := by omega
      have e1 : p = 0 := by omega
      have e2 : q = 0 := by omega
      subst e0
      subst e1
      subst e2
      have := u1 0 hq
      simp only [Nat.zero_div, Nat.zero_mod, Nat.zero_mul, Nat.zero_add, Nat.mul_one] at a2
      omega
    · have := u4 (by omega) (q / n) m p (q % n) q1 hm hp q2
      rw [mdv] at this
      omega
end WV
