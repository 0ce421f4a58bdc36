/-! rings in two orders -/
def rgP (n st : Nat) : Nat → Nat → Nat → List (List Nat)
  | 0, last, _ => [[last * n + st]]
  | m + 1, last, nums => [last * n + st] :: (List.range n).flatMap (fun x => if st < x ∧ nums.testBit x = false then (rgP n st m x (nums ||| 1 <<< x)).map (fun l => (last * n + x) :: l) else [])
theorem rgW_P {n : Nat} {a : Nat → Nat} {st : Nat} : ∀ m last nums sum len, rgW n a st m last nums sum (len + 1) = (rgP n st m last nums).map (fun l => (sum + sumA a l, len + l.length))
  | 0, last, nums, sum, len => by simp [rgW, rgP, sumA]
  | m + 1, last, nums, sum, len => by
    simp only [rgW, rgP, List.map_cons, List.map_flatMap]
    congr 1
    rw [List.flatMap_def, List.flatMap_def]
    congr 1
    apply List.map_congr_left
    intro x _
    split
    · rw [rgW_P m, List.map_map]
      apply List.map_congr_left
      intro l _
      simp only [Function.comp, sumA, List.map_cons, List.sum_cons, List.length_cons]
      congr 1 <;> omega
    · rfl
def rgQ (n : Nat) : List (List Nat) := (List.range n).flatMap (fun st => rgP n st (n - 1) st (1 <<< st))
def slP2 (a : Nat → Nat) (l : List Nat) : Nat × Nat := (sumA a l, l.length)
theorem rgL_Q {n : Nat} {a : Nat → Nat} : rgL n a = (rgQ n).map (slP2 a) := by
  unfold rgL rgQ
  rw [List.map_flatMap, List.flatMap_def, List.flatMap_def]
  congr 1
  apply List.map_congr_left
  intro st _
  rw [show (1 : Nat) = 0 + 1 from rfl, rgW_P]
  apply List.map_congr_left
  intro l _
  unfold slP2
  congr 1 <;> omega
def rSz (n j : Nat) : Nat := if j < n then 1 else if j < n + n * n then 2 else 3
def rRs (n j : Nat) : Nat := j - (if 1 < rSz n j then n else 0) - (if 2 < rSz n j then n * n else 0)
def rO1 (n j : Nat) : Nat := rRs n j % n
def rO2 (n j : Nat) : Nat := rRs n j / n % n
def rO3 (n j : Nat) : Nat := rRs n j / n / n
def rIs (n j : Nat) : Bool := rSz n j == 1 || (decide (rO1 n j < rO2 n j) && (rSz n j == 2 || (decide (rO1 n j < rO3 n j) && rO2 n j != rO3 n j)))
def rPl (n j : Nat) : List Nat := if rSz n j = 1 then [rO1 n j * n + rO1 n j] else if rSz n j = 2 then [rO1 n j * n + rO2 n j, rO2 n j * n + rO1 n j] else [rO1 n j * n + rO2 n j, rO2 n j * n + rO3 n j, rO3 n j * n + rO1 n j]
def rfQ (n m : Nat) : List (List Nat) := (List.range m).filterMap (fun j => if rIs n j = true then some (rPl n j) else none)
theorem rPl_len {n j : Nat} : (rPl n j).length = rSz n j := by
  unfold rPl
  have : rSz n j = 1 ∨ rSz n j = 2 ∨ rSz n j = 3 := by
    unfold rSz
    split
    · exact Or.inl rfl
    · split
      · exact Or.inr (Or.inl rfl)
      · exact Or.inr (Or.inr rfl)
  rcases this with h | h | h <;> simp [h]
def ckR (n : Nat) : Bool := (rgQ n).isPerm (rfQ n (n + n * n + n * n * n)) && (rfQ n (n + n * n + n * n * n)).all (fun l => decide (1 ≤ l.length) && decide (l.length ≤ 3)) && decide ((rfQ n (n + n * n + n * n * n)).Pairwise (fun l l' => l.length ≤ l'.length)) && decide (1 ≤ (rgQ n).length)
theorem ckR_ok : ckR 1 = true ∧ ckR 2 = true ∧ ckR 3 = true := by decide +kernel
def leR (p q : Nat × Nat) : Prop := p.1 * q.2 < q.1 * p.2 ∨ (p.1 * q.2 = q.1 * p.2 ∧ p.2 ≤ q.2)
def l13 (p : Nat × Nat) : Prop := 1 ≤ p.2 ∧ p.2 ≤ 3
theorem l13_c {p : Nat × Nat} (h : l13 p) : p.2 = 1 ∨ p.2 = 2 ∨ p.2 = 3 := by
  obtain ⟨h1, h2⟩ := h
  omega
theorem leR_tr {p q r : Nat × Nat} (hp : l13 p) (hq : l13 q) (hr : l13 r) (h : leR p q) (h2 : leR q r) : leR p r := by
  obtain ⟨p1, p2⟩ := p
  obtain ⟨q1, q2⟩ := q
  obtain ⟨r1, r2⟩ := r
  unfold leR at *
  rcases l13_c hp with e | e | e <;> rcases l13_c hq with e2 | e2 | e2 <;> rcases l13_c hr with e3 | e3 | e3 <;> simp only at e e2 e3 <;> subst e <;> subst e2 <;> subst e3 <;> simp only at * <;> omega
theorem leR_as {p q : Nat × Nat} (hp : l13 p) (hq : l13 q) (h : leR p q) (h2 : leR q p) : p = q := by
  obtain ⟨p1, p2⟩ := p
  obtain ⟨q1, q2⟩ := q
  unfold leR at *
  simp only at h h2
  have e : p2 = q2 := by omega
  subst e
  have hp1 : 1 ≤ p2 := hp.1
  have : p1 * p2 = q1 * p2 := by omega
  rw [Nat.eq_of_mul_eq_mul_right (by omega) this]
theorem leR_rf {p : Nat × Nat} : leR p p := Or.inr ⟨rfl, Nat.le_refl _⟩
theorem rgK_fold : ∀ (l : List (Nat × Nat)) (s : P3), (∀ x ∈ l, l13 x) → l13 s.2 → ∃ p, l.foldl rgK s = (s.1 + l.length, p) ∧ p ∈ s.2 :: l ∧ ∀ q ∈ s.2 :: l, leR p q
  | [], s, _, _ => ⟨s.2, rfl, List.mem_cons_self, fun q hq => by rw [List.mem_singleton.mp hq]; exact leR_rf⟩
  | x :: l, s, hl, hs => by
    have hx := hl x List.mem_cons_self
    have hl2 : ∀ y ∈ l, l13 y := fun y hy => hl y (List.mem_cons_of_mem _ hy)
    have st : ∃ u : Nat × Nat, rgK s x = (s.1 + 1, u) ∧ (u = x ∨ u = s.2) ∧ leR u x ∧ leR u s.2 := by
      unfold rgK
      have h0 : s.2.2 ≠ 0 := by have := hs.1; omega
      by_cases c : s.2.2 = 0 ∨ x.1 * s.2.2 < s.2.1 * x.2 ∨ (x.1 * s.2.2 = s.2.1 * x.2 ∧ x.2 < s.2.2)
      · rw [if_pos c]
        refine ⟨x, rfl, Or.inl rfl, leR_rf, ?_⟩
        rcases c with c | c | c
        · exact absurd c h0
        · exact Or.inl c
        · exact Or.inr ⟨c.1, by omega⟩
      · rw [if_neg c]
        refine ⟨s.2, rfl, Or.inr rfl, ?_, leR_rf⟩
        have c2 : ¬ x.1 * s.2.2 < s.2.1 * x.2 := fun z => c (Or.inr (Or.inl z))
        have c3 : ¬ (x.1 * s.2.2 = s.2.1 * x.2 ∧ x.2 < s.2.2) := fun z => c (Or.inr (Or.inr z))
        unfold leR
        generalize x.1 * s.2.2 = A at *
        generalize s.2.1 * x.2 = B at *
        omega
    obtain ⟨u, e1, e2, e3, e4⟩ := st
    have hu : l13 u := by rcases e2 with z | z <;> rw [z] <;> assumption
    obtain ⟨p, g1, g2, g3⟩ := rgK_fold l (s.1 + 1, u) hl2 hu
    have hp : l13 p := by
      rw [List.mem_cons] at g2
      rcases g2 with z | z
      · rw [z]; exact hu
      · exact hl2 p z
    refine ⟨p, ?_, ?_, fun q hq => ?_⟩
    · rw [List.foldl_cons, e1, g1, List.length_cons]
      congr 1
      show s.1 + 1 + l.length = s.1 + (l.length + 1)
      omega
    · rw [List.mem_cons] at g2
      rcases g2 with z | z
      · have z : p = u := z
        rw [z]
        rcases e2 with z2 | z2 <;> rw [z2] <;> simp
      · simp [z]
    · rw [List.mem_cons, List.mem_cons] at hq
      have gu := g3 u List.mem_cons_self
      rcases hq with z | z | z
      · rw [z]; exact leR_tr hp hu hs gu e4
      · rw [z]; exact leR_tr hp hu hx gu e3
      · exact g3 q (List.mem_cons_of_mem _ z)
def rgR (s : P3) (x : Nat × Nat) : P3 := if s.1 = 0 ∨ x.1 * s.2.2 < s.2.1 * x.2 then (s.1 + 1, x.1, x.2) else (s.1 + 1, s.2.1, s.2.2)
theorem rgR_fold : ∀ (l : List (Nat × Nat)) (s : P3), (∀ x ∈ l, l13 x) → l13 s.2 → s.1 ≠ 0 → (s.2 :: l).Pairwise (fun x y => x.2 ≤ y.2) → ∃ p, l.foldl rgR s = (s.1 + l.length, p) ∧ p ∈ s.2 :: l ∧ ∀ q ∈ s.2 :: l, leR p q
  | [], s, _, _, _, _ => ⟨s.2, rfl, List.mem_cons_self, fun q hq => by rw [List.mem_singleton.mp hq]; exact leR_rf⟩
  | x :: l, s, hl, hs, h0, hpw => by
    have hx := hl x List.mem_cons_self
    have hl2 : ∀ y ∈ l, l13 y := fun y hy => hl y (List.mem_cons_of_mem _ hy)
    rw [List.pairwise_cons] at hpw
    obtain ⟨hp1, hp2⟩ := hpw
    have st : ∃ u : Nat × Nat, rgR s x = (s.1 + 1, u) ∧ (u = x ∨ u = s.2) ∧ leR u x ∧ leR u s.2 := by
      unfold rgR
      by_cases c : s.1 = 0 ∨ x.1 * s.2.2 < s.2.1 * x.2
      · rw [if_pos c]
        refine ⟨x, rfl, Or.inl rfl, leR_rf, ?_⟩
        rcases c with c | c
        · exact absurd c h0
        · exact Or.inl c
      · rw [if_neg c]
        refine ⟨s.2, rfl, Or.inr rfl, ?_, leR_rf⟩
        have c2 : ¬ x.1 * s.2.2 < s.2.1 * x.2 := fun z => c (Or.inr z)
        have c3 := hp1 x List.mem_cons_self
        unfold leR
        generalize x.1 * s.2.2 = A at *
        generalize s.2.1 * x.2 = B at *
        omega
    obtain ⟨u, e1, e2, e3, e4⟩ := st
    have hu : l13 u := by rcases e2 with z | z <;> rw [z] <;> assumption
    have hpu : (u :: l).Pairwise (fun x y => x.2 ≤ y.2) := by
      rw [List.pairwise_cons] at hp2 ⊢
      refine ⟨fun y hy => ?_, hp2.2⟩
      rcases e2 with z | z
      · rw [z]; exact hp2.1 y hy
      · rw [z]; exact hp1 y (List.mem_cons_of_mem _ hy)
    obtain ⟨p, g1, g2, g3⟩ := rgR_fold l (s.1 + 1, u) hl2 hu (Nat.succ_ne_zero _) hpu
    have hp : l13 p := by
      rw [List.mem_cons] at g2
      rcases g2 with z | z
      · rw [z]; exact hu
      · exact hl2 p z
    refine ⟨p, ?_, ?_, fun q hq => ?_⟩
    · rw [List.foldl_cons, e1, g1, List.length_cons]
      congr 1
      show s.1 + 1 + l.length = s.1 + (l.length + 1)
      omega
    · rw [List.mem_cons] at g2
      rcases g2 with z | z
      · have z : p = u := z
        rw [z]
        rcases e2 with z2 | z2 <;> rw [z2] <;> simp
      · simp [z]
    · rw [List.mem_cons, List.mem_cons] at hq
      have gu := g3 u List.mem_cons_self
      rcases hq with z | z | z
      · rw [z]; exact leR_tr hp hu hs gu e4
      · rw [z]; exact leR_tr hp hu hx gu e3
      · exact g3 q (List.mem_cons_of_mem _ z)
theorem rg_eq {l l' : List (Nat × Nat)} (hp : l.Perm l') (h13 : ∀ x ∈ l', l13 x) (hs : l'.Pairwise (fun x y => x.2 ≤ y.2)) (hl : 1 ≤ l.length) : l.foldl rgK (0, 0, 0) = l'.foldl rgR (0, 0, 0) := by
  have hlen := hp.length_eq
  have h13' : ∀ x ∈ l, l13 x := fun x hx => h13 x (hp.mem_iff.mp hx)
  cases l with
  | nil => exact absurd hl (by decide)
  | cons y l =>
    cases l' with
    | nil => exact absurd hlen (by simp)
    | cons z l' =>
      have e1 : rgK (0, 0, 0) y = (1, y) := rfl
      have e2 : rgR (0, 0, 0) z = (1, z) := rfl
      rw [List.foldl_cons, List.foldl_cons, e1, e2]
      have hy := h13' y List.mem_cons_self
      have hz := h13 z List.mem_cons_self
      obtain ⟨p, g1, g2, g3⟩ := rgK_fold l (1, y) (fun x hx => h13' x (List.mem_cons_of_mem _ hx)) hy
      obtain ⟨q, k1, k2, k3⟩ := rgR_fold l' (1, z) (fun x hx => h13 x (List.mem_cons_of_mem _ hx)) hz Nat.one_ne_zero hs
      have g2 : p ∈ y :: l := g2
      have k2 : q ∈ z :: l' := k2
      have a1 := g3 q (hp.mem_iff.mpr k2)
      have a2 := k3 p (hp.mem_iff.mp g2)
      have hpq : p = q := leR_as (h13' p g2) (h13 q k2) a1 a2
      rw [g1, k1, hpq]
      congr 1
      simp only [List.length_cons] at hlen
      show 1 + l.length = 1 + l'.length
      omega
/-- the reference's rings, behind the first codes -/
def rrS (n : Nat) (a : Nat → Nat) : Nat → P3
  | 0 => (0, 0, 0)
  | j + 1 => if rIs n j = true then rgR (rrS n a j) (slP2 a (rPl n j)) else rrS n a j
theorem rrS_fold {n : Nat} {a : Nat → Nat} : ∀ j, rrS n a j = ((rfQ n j).map (slP2 a)).foldl rgR (0, 0, 0)
  | 0 => rfl
  | j + 1 => by
    unfold rfQ
    simp only [rrS, List.range_succ, List.filterMap_append, List.map_append, List.foldl_append]
    rw [rrS_fold j]
    unfold rfQ
    split
    · next h => simp [h]
    · next h => simp [h]
theorem rrS_eq {n : Nat} {a : Nat → Nat} (h1 : 1 ≤ n) (h3 : n ≤ 3) : rrS n a (n + n * n + n * n * n) = rgN n a := by
  have hk : ckR n = true := by
    obtain ⟨k1, k2, k3⟩ := ckR_ok
    rcases (show n = 1 ∨ n = 2 ∨ n = 3 by omega) with rfl | rfl | rfl <;> assumption
  simp only [ckR, Bool.and_eq_true, decide_eq_true_eq, List.all_eq_true] at hk
  obtain ⟨⟨⟨q1, q2⟩, q3⟩, q4⟩ := hk
  rw [rrS_fold]
  unfold rgN
  rw [rgL_Q]
  refine (rg_eq ((List.isPerm_iff.mp q1).map _) (fun x hx => ?_) ?_ (by rw [List.length_map]; exact q4)).symm
  · obtain ⟨l, hl, rfl⟩ := List.mem_map.mp hx
    exact q2 l hl
  · rw [List.pairwise_map]
    exact q3
