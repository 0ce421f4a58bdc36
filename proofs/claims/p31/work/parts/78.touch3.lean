/-! the reference's shortest ways over rows -/
def updZ (f : Nat → Int) (k : Nat) (x : Int) : Nat → Int := fun j => if j = k then x else f j
theorem updZ_s {f : Nat → Int} {k : Nat} {x : Int} : updZ f k x k = x := by simp [updZ]
theorem updZ_n {f : Nat → Int} {k j : Nat} {x : Int} (h : j ≠ k) : updZ f k x j = f j := by simp [updZ, h]
def lsE (C : Nat) (a : Nat → Nat) (S i k : Nat) : Nat → Int
  | 0 => 99999
  | n + 1 => if S.testBit (k * C + n) = true ∧ (a (k * C + n) : Int) - a (i * C + n) < lsE C a S i k n then (a (k * C + n) : Int) - a (i * C + n) else lsE C a S i k n
def s0F (C : Nat) (a : Nat → Nat) (S : Nat) : Nat → Int := fun x => lsE C a S (x / 4) (x % 4) C
def zS (n b q : Nat) (f : Nat → Int) : Nat → Int := updZ f (4 * (q / n) + q % n) (if f (4 * (q / n) + b) + f (4 * b + q % n) < f (4 * (q / n) + q % n) then f (4 * (q / n) + b) + f (4 * b + q % n) else f (4 * (q / n) + q % n))
def zK (n b : Nat) : Nat → (Nat → Int) → (Nat → Int)
  | 0, f => f
  | q + 1, f => zS n b q (zK n b q f)
def zB (n : Nat) : Nat → (Nat → Int) → (Nat → Int)
  | 0, f => f
  | b + 1, f => zK n b (n * n) (zB n b f)
def tchR (R C : Nat) (a : Nat → Nat) (S : Nat) : Bool := (List.range R).all (fun k => decide (0 ≤ zB R R (s0F C a S) (4 * k + k)))
/-- a step from a row to a row -/
def eg (C : Nat) (a : Nat → Nat) (S i k : Nat) (x : Int) : Prop := ∃ j, j < C ∧ S.testBit (k * C + j) = true ∧ x = (a (k * C + j) : Int) - a (i * C + j)
theorem lsE_le {C : Nat} {a : Nat → Nat} {S i k j : Nat} (ht : S.testBit (k * C + j) = true) : ∀ n, j < n → lsE C a S i k n ≤ (a (k * C + j) : Int) - a (i * C + j)
  | 0, h => absurd h (Nat.not_lt_zero j)
  | n + 1, h => by
    simp only [lsE]
    by_cases hj : j = n
    · subst hj
      split
      · exact Int.le_refl _
      · next hn =>
        have : ¬ (a (k * C + j) : Int) - a (i * C + j) < lsE C a S i k j := fun z => hn ⟨ht, z⟩
        omega
    · have := lsE_le (a := a) (i := i) ht n (by omega)
      split
      · next hn => omega
      · exact this
theorem lsE_eg {C : Nat} {a : Nat → Nat} {S i k : Nat} : ∀ n, n ≤ C → lsE C a S i k n = 99999 ∨ eg C a S i k (lsE C a S i k n)
  | 0, _ => Or.inl rfl
  | n + 1, h => by
    simp only [lsE]
    split
    · next hn => exact Or.inr ⟨n, by omega, hn.1, rfl⟩
    · exact lsE_eg n (by omega)
theorem eg_bd {R C : Nat} {a : Nat → Nat} {S i k : Nat} {x : Int} (hd : okD R C) (ha : ∀ q, q < R * C → a q ≤ 999) (hi : i < R) (hk : k < R) (h : eg C a S i k x) : -999 ≤ x ∧ x ≤ 999 := by
  obtain ⟨j, hj, _, rfl⟩ := h
  have := ha _ (hd.in hi hj)
  have := ha _ (hd.in hk hj)
  omega
section NOBAD
variable {R C : Nat} {a : Nat → Nat} {S : Nat}
theorem eg1 {i : Nat} {x : Int} (h : eg C a S i i x) : x = 0 := by
  obtain ⟨j, _, _, rfl⟩ := h
  omega
theorem eg_mk {i k j : Nat} (hj : j < C) (ht : S.testBit (k * C + j) = true) : eg C a S i k ((a (k * C + j) : Int) - a (i * C + j)) := ⟨j, hj, ht, rfl⟩
theorem eg2 (nb : ¬ badS R C a S) {i k : Nat} {x y : Int} (hi : i < R) (hk : k < R) (h1 : eg C a S i k x) (h2 : eg C a S k i y) : 0 ≤ x + y := by
  by_cases hik : i = k
  · subst hik
    have := eg1 h1
    have := eg1 h2
    omega
  · obtain ⟨j, hj, tj, rfl⟩ := h1
    obtain ⟨l, hl, tl, rfl⟩ := h2
    by_cases hjl : j = l
    · subst hjl; omega
    · apply Int.not_lt.mp
      intro hlt
      exact nb (Or.inl ⟨i, k, l, j, hi, hk, hl, hj, hik, Ne.symm hjl, tl, tj, by omega⟩)
theorem eg3 (nb : ¬ badS R C a S) {i k m : Nat} {x y z : Int} (hi : i < R) (hk : k < R) (hm : m < R) (h1 : eg C a S i k x) (h2 : eg C a S k m y) (h3 : eg C a S m i z) : 0 ≤ x + y + z := by
  by_cases r1 : i = k
  · subst r1
    have := eg1 h1
    have := eg2 nb hi hm h2 h3
    omega
  by_cases r2 : k = m
  · subst r2
    have := eg1 h2
    have := eg2 nb hi hk h1 h3
    omega
  by_cases r3 : i = m
  · subst r3
    have := eg1 h3
    have := eg2 nb hi hk h1 h2
    omega
  obtain ⟨j, hj, tj, rfl⟩ := h1
  obtain ⟨l, hl, tl, rfl⟩ := h2
  obtain ⟨h, hh, th, rfl⟩ := h3
  by_cases c1 : j = l
  · subst c1
    have := eg2 nb hi hm (eg_mk (a := a) (i := i) hj tl) (eg_mk (a := a) (i := m) hh th)
    omega
  by_cases c2 : l = h
  · subst c2
    have := eg2 nb hk hi (eg_mk (a := a) (i := k) hl th) (eg_mk (a := a) (i := i) hj tj)
    omega
  by_cases c3 : j = h
  · subst c3
    have := eg2 nb hm hk (eg_mk (a := a) (i := m) hj tj) (eg_mk (a := a) (i := k) hl tl)
    omega
  apply Int.not_lt.mp
  intro hlt
  exact nb (Or.inr ⟨i, k, m, h, j, l, hi, hk, hm, hh, hj, hl, r1, r2, r3, Ne.symm c3, c1, Ne.symm c2, th, tj, tl, by omega⟩)
theorem eg4 (nb : ¬ badS R C a S) (hd : okD R C) {i k m p : Nat} {x y z u : Int} (hi : i < R) (hk : k < R) (hm : m < R) (hp : p < R) (h1 : eg C a S i k x) (h2 : eg C a S k m y) (h3 : eg C a S m p z) (h4 : eg C a S p i u) : 0 ≤ x + y + z + u := by
  by_cases r1 : i = k
  · subst r1
    have := eg1 h1
    have := eg3 nb hi hm hp h2 h3 h4
    omega
  by_cases r2 : k = m
  · subst r2
    have := eg1 h2
    have := eg3 nb hi hk hp h1 h3 h4
    omega
  by_cases r3 : m = p
  · subst r3
    have := eg1 h3
    have := eg3 nb hi hk hm h1 h2 h4
    omega
  by_cases r4 : p = i
  · subst r4
    have := eg1 h4
    have := eg3 nb hp hk hm h1 h2 h3
    omega
  by_cases r5 : i = m
  · subst r5
    have := eg2 nb hi hk h1 h2
    have := eg2 nb hi hp h3 h4
    omega
  by_cases r6 : k = p
  · subst r6
    have := eg2 nb hk hm h2 h3
    have := eg2 nb hk hi h4 h1
    omega
  obtain ⟨j, hj, tj, rfl⟩ := h1
  obtain ⟨l, hl, tl, rfl⟩ := h2
  obtain ⟨h, hh, th, rfl⟩ := h3
  obtain ⟨q, hq, tq, rfl⟩ := h4
  by_cases c1 : j = l
  · subst c1
    have := eg3 nb hi hm hp (eg_mk (a := a) (i := i) hj tl) (eg_mk (a := a) (i := m) hh th) (eg_mk (a := a) (i := p) hq tq)
    omega
  by_cases c2 : l = h
  · subst c2
    have := eg3 nb hi hk hp (eg_mk (a := a) (i := i) hj tj) (eg_mk (a := a) (i := k) hl th) (eg_mk (a := a) (i := p) hq tq)
    omega
  by_cases c3 : h = q
  · subst c3
    have := eg3 nb hi hk hm (eg_mk (a := a) (i := i) hj tj) (eg_mk (a := a) (i := k) hl tl) (eg_mk (a := a) (i := m) hh tq)
    omega
  by_cases c4 : q = j
  · subst c4
    have := eg3 nb hp hk hm (eg_mk (a := a) (i := p) hq tj) (eg_mk (a := a) (i := k) hl tl) (eg_mk (a := a) (i := m) hh th)
    omega
  by_cases c5 : j = h
  · subst c5
    have := eg2 nb hi hp (eg_mk (a := a) (i := i) hj th) (eg_mk (a := a) (i := p) hq tq)
    have := eg2 nb hm hk (eg_mk (a := a) (i := m) hj tj) (eg_mk (a := a) (i := k) hl tl)
    omega
  by_cases c6 : l = q
  · subst c6
    have := eg2 nb hk hi (eg_mk (a := a) (i := k) hl tq) (eg_mk (a := a) (i := i) hj tj)
    have := eg2 nb hp hm (eg_mk (a := a) (i := p) hl tl) (eg_mk (a := a) (i := m) hh th)
    omega
  exfalso
  have hR : 4 ≤ R := by omega
  have hC : 4 ≤ C := by omega
  have := Nat.mul_le_mul hR hC
  have := hd.2.2.2.2
  omega
/-- a row of at most three steps, with a sum of at most x -/
def wk (R C : Nat) (a : Nat → Nat) (S i k : Nat) (x : Int) : Prop := (i = k ∧ 0 ≤ x) ∨ (∃ y, eg C a S i k y ∧ y ≤ x) ∨ (∃ m y z, m < R ∧ eg C a S i m y ∧ eg C a S m k z ∧ y + z ≤ x) ∨ (∃ m p y z u, m < R ∧ p < R ∧ eg C a S i m y ∧ eg C a S m p z ∧ eg C a S p k u ∧ y + z + u ≤ x)
theorem wk_ext (nb : ¬ badS R C a S) (hd : okD R C) {i k m : Nat} {x e : Int} (hi : i < R) (hk : k < R) (hm : m < R) (h : wk R C a S i k x) (he : eg C a S k m e) : wk R C a S i m (x + e) := by
  have d1 := hd.2.1
  rcases h with ⟨rfl, h⟩ | ⟨y, h1, h2⟩ | ⟨p, y, z, hp, h1, h2, h3⟩ | ⟨p, q, y, z, u, hp, hq, h1, h2, h3, h4⟩
  · exact Or.inr (Or.inl ⟨e, he, by omega⟩)
  · exact Or.inr (Or.inr (Or.inl ⟨k, y, e, hk, h1, he, by omega⟩))
  · exact Or.inr (Or.inr (Or.inr ⟨p, k, y, z, e, hp, hk, h1, h2, he, by omega⟩))
  · by_cases c1 : i = m
    · subst c1
      have := eg4 nb hd hi hp hq hk h1 h2 h3 he
      exact Or.inl ⟨rfl, by omega⟩
    by_cases c2 : i = p
    · subst c2
      have := eg1 h1
      exact Or.inr (Or.inr (Or.inr ⟨q, k, z, u, e, hq, hk, h2, h3, he, by omega⟩))
    by_cases c3 : i = q
    · subst c3
      have := eg2 nb hi hp h1 h2
      exact Or.inr (Or.inr (Or.inl ⟨k, u, e, hk, h3, he, by omega⟩))
    by_cases c4 : i = k
    · subst c4
      have := eg3 nb hi hp hq h1 h2 h3
      exact Or.inr (Or.inl ⟨e, he, by omega⟩)
    by_cases c5 : p = q
    · subst c5
      have := eg1 h2
      exact Or.inr (Or.inr (Or.inr ⟨p, k, y, u, e, hp, hk, h1, h3, he, by omega⟩))
    by_cases c6 : p = k
    · subst c6
      have := eg2 nb hp hq h2 h3
      exact Or.inr (Or.inr (Or.inl ⟨p, y, e, hp, h1, he, by omega⟩))
    by_cases c7 : p = m
    · subst c7
      have := eg3 nb hp hq hk h2 h3 he
      exact Or.inr (Or.inl ⟨y, h1, by omega⟩)
    by_cases c8 : q = k
    · subst c8
      have := eg1 h3
      exact Or.inr (Or.inr (Or.inr ⟨p, q, y, z, e, hp, hq, h1, h2, he, by omega⟩))
    by_cases c9 : q = m
    · subst c9
      have := eg2 nb hq hk h3 he
      exact Or.inr (Or.inr (Or.inl ⟨p, y, z, hp, h1, h2, by omega⟩))
    by_cases c10 : k = m
    · subst c10
      have := eg1 he
      exact Or.inr (Or.inr (Or.inr ⟨p, q, y, z, u, hp, hq, h1, h2, h3, by omega⟩))
    omega
theorem wk_le {i k : Nat} {x x' : Int} (h : wk R C a S i k x) (hx : x ≤ x') : wk R C a S i k x' := by
  rcases h with ⟨rfl, h⟩ | ⟨y, h1, h2⟩ | ⟨p, y, z, hp, h1, h2, h3⟩ | ⟨p, q, y, z, u, hp, hq, h1, h2, h3, h4⟩
  · exact Or.inl ⟨rfl, by omega⟩
  · exact Or.inr (Or.inl ⟨y, h1, by omega⟩)
  · exact Or.inr (Or.inr (Or.inl ⟨p, y, z, hp, h1, h2, by omega⟩))
  · exact Or.inr (Or.inr (Or.inr ⟨p, q, y, z, u, hp, hq, h1, h2, h3, by omega⟩))
theorem wk_tr (nb : ¬ badS R C a S) (hd : okD R C) {i j k : Nat} {x y : Int} (hi : i < R) (hj : j < R) (hk : k < R) (h : wk R C a S i j x) (h2 : wk R C a S j k y) : wk R C a S i k (x + y) := by
  rcases h2 with ⟨rfl, g⟩ | ⟨e, g1, g2⟩ | ⟨p, e, f, hp, g1, g2, g3⟩ | ⟨p, q, e, f, u, hp, hq, g1, g2, g3, g4⟩
  · exact wk_le h (by omega)
  · exact wk_le (wk_ext nb hd hi hj hk h g1) (by omega)
  · exact wk_le (wk_ext nb hd hi hp hk (wk_ext nb hd hi hj hp h g1) g2) (by omega)
  · exact wk_le (wk_ext nb hd hi hq hk (wk_ext nb hd hi hp hq (wk_ext nb hd hi hj hp h g1) g2) g3) (by omega)
theorem wk_0 (nb : ¬ badS R C a S) {i : Nat} {x : Int} (hi : i < R) (h : wk R C a S i i x) : 0 ≤ x := by
  rcases h with ⟨_, g⟩ | ⟨e, g1, g2⟩ | ⟨p, e, f, hp, g1, g2, g3⟩ | ⟨p, q, e, f, u, hp, hq, g1, g2, g3, g4⟩
  · exact g
  · have := eg1 g1; omega
  · have := eg2 nb hi hp g1 g2; omega
  · have := eg3 nb hi hp hq g1 g2 g3; omega
theorem wk_lo (hd : okD R C) (ha : ∀ q, q < R * C → a q ≤ 999) {i k : Nat} {x : Int} (hi : i < R) (hk : k < R) (h : wk R C a S i k x) : -2997 ≤ x := by
  rcases h with ⟨_, g⟩ | ⟨e, g1, g2⟩ | ⟨p, e, f, hp, g1, g2, g3⟩ | ⟨p, q, e, f, u, hp, hq, g1, g2, g3, g4⟩
  · omega
  · have := eg_bd hd ha hi hk g1; omega
  · have := eg_bd hd ha hi hp g1; have := eg_bd hd ha hp hk g2; omega
  · have := eg_bd hd ha hi hp g1; have := eg_bd hd ha hp hq g2; have := eg_bd hd ha hq hk g3; omega
def lev (R C : Nat) (a : Nat → Nat) (S i k : Nat) (t : Int) (x : Int) : Prop := wk R C a S i k x ∨ 99999 - 2997 * t ≤ x
theorem ix4 {i k i' k' : Nat} (hk : k < 4) (hk' : k' < 4) (h : 4 * i + k = 4 * i' + k') : i = i' ∧ k = k' := by omega
theorem zK_lev (nb : ¬ badS R C a S) (hd : okD R C) (ha : ∀ q, q < R * C → a q ≤ 999) {b : Nat} {t : Int} (ht : 0 ≤ t ∧ t ≤ 4) (hb : b < R) {f : Nat → Int} (hf : ∀ i k, i < R → k < R → lev R C a S i k t (f (4 * i + k))) : ∀ q, q ≤ R * R → ∀ i k, i < R → k < R → (i = b ∨ k = b → zK R b q f (4 * i + k) = f (4 * i + k)) ∧ lev R C a S i k (t + 1) (zK R b q f (4 * i + k))
  | 0, _, i, k, hi, hk => ⟨fun _ => rfl, by
      rcases hf i k hi hk with h | h
      · exact Or.inl h
      · exact Or.inr (by show _ ≤ f (4 * i + k); omega)⟩
  | q + 1, hq, i, k, hi, hk => by
    have d1 := hd.2.1
    have ih := zK_lev nb hd ha ht hb hf q (by omega)
    obtain ⟨q1, q2⟩ := dm_lt (show q < R * R by omega)
    have e : zK R b (q + 1) f = zS R b q (zK R b q f) := rfl
    rw [e]
    unfold zS
    by_cases hx : 4 * i + k = 4 * (q / R) + q % R
    · obtain ⟨x1, x2⟩ := ix4 (by omega) (by omega) hx
      rw [← x1, ← x2, updZ_s]
      have a1 := ih i b hi hb
      have a2 := ih b k hb hk
      have a3 := ih i k hi hk
      rw [a1.1 (Or.inr rfl), a2.1 (Or.inl rfl)]
      have hbb : 0 ≤ f (4 * b + b) := by
        rcases hf b b hb hb with h | h
        · exact wk_0 nb hb h
        · omega
      refine ⟨fun hib => ?_, ?_⟩
      · rw [a3.1 hib]
        rcases hib with z | z
        · subst z
          rw [if_neg (by omega)]
        · subst z
          rw [if_neg (by omega)]
      · split
        · have b1 := hf i b hi hb
          have b2 := hf b k hb hk
          rcases b1 with b1 | b1
          · rcases b2 with b2 | b2
            · exact Or.inl (wk_tr nb hd hi hb hk b1 b2)
            · have := wk_lo hd ha hi hb b1
              exact Or.inr (by omega)
          · rcases b2 with b2 | b2
            · have := wk_lo hd ha hb hk b2
              exact Or.inr (by omega)
            · exact Or.inr (by omega)
        · exact a3.2
    · rw [updZ_n hx]
      exact ih i k hi hk
theorem zB_lev (nb : ¬ badS R C a S) (hd : okD R C) (ha : ∀ q, q < R * C → a q ≤ 999) : ∀ b, b ≤ R → ∀ i k, i < R → k < R → lev R C a S i k b (zB R b (s0F C a S) (4 * i + k))
  | 0, _, i, k, hi, hk => by
    have d1 := hd.2.1
    show lev R C a S i k 0 (s0F C a S (4 * i + k))
    unfold s0F
    rw [show (4 * i + k) / 4 = i by omega, show (4 * i + k) % 4 = k by omega]
    rcases lsE_eg (a := a) (S := S) (i := i) (k := k) C (Nat.le_refl C) with h | h
    · exact Or.inr (by rw [h]; omega)
    · exact Or.inl (Or.inr (Or.inl ⟨_, h, Int.le_refl _⟩))
  | b + 1, hb, i, k, hi, hk => by
    have d1 := hd.2.1
    have := (zK_lev nb hd ha (t := b) ⟨by omega, by omega⟩ (show b < R by omega) (zB_lev nb hd ha b (by omega)) (R * R) (Nat.le_refl _) i k hi hk).2
    exact this
end NOBAD
theorem zK_dec {n b : Nat} {f : Nat → Int} : ∀ q x, zK n b q f x ≤ f x
  | 0, x => Int.le_refl _
  | q + 1, x => by
    have ih := zK_dec (n := n) (b := b) (f := f) q
    have e : zK n b (q + 1) f = zS n b q (zK n b q f) := rfl
    rw [e]
    unfold zS
    by_cases hx : x = 4 * (q / n) + q % n
    · subst hx
      rw [updZ_s]
      have := ih (4 * (q / n) + q % n)
      split <;> omega
    · rw [updZ_n hx]
      exact ih x
theorem zK_st {n b i k : Nat} {f : Nat → Int} (hi : i < n) (hk : k < n) : ∀ q, i * n + k < q → zK n b q f (4 * i + k) ≤ f (4 * i + b) + f (4 * b + k)
  | 0, h => absurd h (Nat.not_lt_zero _)
  | q + 1, h => by
    have e : zK n b (q + 1) f = zS n b q (zK n b q f) := rfl
    rw [e]
    by_cases hq : q = i * n + k
    · subst hq
      unfold zS
      rw [dm_div hk, dm_mod hk, updZ_s]
      have h1 := zK_dec (n := n) (b := b) (f := f) (i * n + k) (4 * i + b)
      have h2 := zK_dec (n := n) (b := b) (f := f) (i * n + k) (4 * b + k)
      split <;> omega
    · have ih := zK_st (b := b) (f := f) hi hk q (by omega)
      unfold zS
      by_cases hx : 4 * i + k = 4 * (q / n) + q % n
      · rw [← hx, updZ_s]
        split <;> omega
      · rw [updZ_n hx]
        exact ih
theorem zB_dec {n : Nat} {f : Nat → Int} {b : Nat} : ∀ m x, zB n (b + m) f x ≤ zB n b f x
  | 0, x => Int.le_refl _
  | m + 1, x => Int.le_trans (zK_dec (n * n) x) (zB_dec m x)
theorem zB_st {n b i k : Nat} {f : Nat → Int} (hi : i < n) (hk : k < n) : zB n (b + 1) f (4 * i + k) ≤ zB n b f (4 * i + b) + zB n b f (4 * b + k) := zK_st hi hk (n * n) (ix_lt hi hk)
theorem zB_s0 {R C : Nat} {a : Nat → Nat} {S i k : Nat} {x : Int} (hR : R ≤ 4) (hi : i < R) (hk : k < R) (b : Nat) (h : eg C a S i k x) : zB R b (s0F C a S) (4 * i + k) ≤ x := by
  have h1 := zB_dec (n := R) (f := s0F C a S) (b := 0) b (4 * i + k)
  rw [Nat.zero_add] at h1
  refine Int.le_trans h1 ?_
  show s0F C a S (4 * i + k) ≤ x
  unfold s0F
  rw [show (4 * i + k) / 4 = i by omega, show (4 * i + k) % 4 = k by omega]
  obtain ⟨j, hj, ht, rfl⟩ := h
  exact lsE_le ht C hj
theorem z2 {R C : Nat} {a : Nat → Nat} {S i k : Nat} {x y : Int} (hR : R ≤ 4) (hi : i < R) (hk : k < R) (h1 : eg C a S i k x) (h2 : eg C a S k i y) : zB R R (s0F C a S) (4 * i + i) ≤ x + y := by
  have e1 := zB_st (n := R) (b := k) (f := s0F C a S) hi hi
  have e2 := zB_dec (n := R) (f := s0F C a S) (b := k + 1) (R - (k + 1)) (4 * i + i)
  rw [show k + 1 + (R - (k + 1)) = R by omega] at e2
  have e3 := zB_s0 hR hi hk k h1
  have e4 := zB_s0 hR hk hi k h2
  omega
theorem z3 {R C : Nat} {a : Nat → Nat} {S i k m : Nat} {x y z : Int} (hR : R ≤ 4) (hi : i < R) (hk : k < R) (hm : m < R) (hkm : k < m) (h1 : eg C a S i k x) (h2 : eg C a S k m y) (h3 : eg C a S m i z) : zB R R (s0F C a S) (4 * i + i) ≤ x + y + z := by
  have e1 := zB_st (n := R) (b := k) (f := s0F C a S) hi hm
  have e2 := zB_dec (n := R) (f := s0F C a S) (b := k + 1) (m - (k + 1)) (4 * i + m)
  rw [show k + 1 + (m - (k + 1)) = m by omega] at e2
  have e3 := zB_s0 hR hi hk k h1
  have e4 := zB_s0 hR hk hm k h2
  have e5 := zB_st (n := R) (b := m) (f := s0F C a S) hi hi
  have e6 := zB_dec (n := R) (f := s0F C a S) (b := m + 1) (R - (m + 1)) (4 * i + i)
  rw [show m + 1 + (R - (m + 1)) = R by omega] at e6
  have e7 := zB_s0 hR hm hi m h3
  omega
theorem tch_eq {R C : Nat} {a : Nat → Nat} {S : Nat} (hd : okD R C) (ha : ∀ q, q < R * C → a q ≤ 999) (hS : S < 2 ^ (R * C)) : tchR R C a S = !untN R C a S := by
  have d1 := hd.2.1
  have key : tchR R C a S = true ↔ ¬ badS R C a S := by
    unfold tchR
    simp only [List.all_eq_true, List.mem_range, decide_eq_true_eq]
    constructor
    · rintro h (⟨i, k, j, l, hi, hk, hj, hl, n1, n2, t1, t2, hlt⟩ | ⟨i, k, m, j, l, hh, hi, hk, hm, hj, hl, hhh, n1, n2, n3, n4, n5, n6, t1, t2, t3, hlt⟩)
      · have := z2 d1 hi hk (eg_mk (a := a) (i := i) hl t2) (eg_mk (a := a) (i := k) hj t1)
        have := h i hi
        omega
      · have g1 : eg C a S i k _ := eg_mk (i := i) hl t2
        have g2 : eg C a S k m _ := eg_mk (i := k) hhh t3
        have g3 : eg C a S m i _ := eg_mk (i := m) hj t1
        rcases (show k < m ∨ m < i ∨ i < k by omega) with c | c | c
        · have := z3 d1 hi hk hm c g1 g2 g3
          have := h i hi
          omega
        · have := z3 d1 hk hm hi c g2 g3 g1
          have := h k hk
          omega
        · have := z3 d1 hm hi hk c g3 g1 g2
          have := h m hm
          omega
    · intro nb k hk
      rcases zB_lev nb hd ha R (Nat.le_refl R) k k hk hk with h | h
      · exact wk_0 nb hk h
      · omega
  cases hu : untN R C a S with
  | true =>
    have := (unt_bad hd hS).mp hu
    cases ht : tchR R C a S with
    | true => exact absurd this (key.mp ht)
    | false => rfl
  | false =>
    have : ¬ badS R C a S := fun z => by
      rw [(unt_bad hd hS).mpr z] at hu
      exact absurd hu (by decide)
    rw [key.mpr this]
    rfl
