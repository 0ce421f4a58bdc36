/-- one step of the shortest ways: over b, at the place k -/
def fwS (n b k : Nat) (a : Nat → Nat) : Nat → Nat := updN a k (min (a k) (a (k / n * n + b) + a (b * n + k % n)))
def fwK (n b : Nat) : Nat → (Nat → Nat) → (Nat → Nat)
  | 0, a => a
  | k + 1, a => fwS n b k (fwK n b k a)
def fwB (n : Nat) : Nat → (Nat → Nat) → (Nat → Nat)
  | 0, a => a
  | b + 1, a => fwK n b (n * n) (fwB n b a)
theorem fwK_le {n b : Nat} {a : Nat → Nat} {B : Nat} {S : Nat} (h : ∀ k, k < S → a k ≤ B) : ∀ m k, k < S → fwK n b m a k ≤ B
  | 0, k, hk => h k hk
  | m + 1, k, hk => by
    simp only [fwK, fwS]
    by_cases hq : k = m
    · rw [hq, updN_s]
      exact Nat.le_trans (Nat.min_le_left _ _) (fwK_le h m m (by omega))
    · rw [updN_n hq]
      exact fwK_le h m k hk
theorem fwB_le {n : Nat} {a : Nat → Nat} {B : Nat} {S : Nat} (h : ∀ k, k < S → a k ≤ B) : ∀ m k, k < S → fwB n m a k ≤ B
  | 0, k, hk => h k hk
  | m + 1, k, hk => fwK_le (fwB_le h m) (n * n) k hk
theorem fwK_dec {n b : Nat} {a : Nat → Nat} : ∀ m k, fwK n b m a k ≤ a k
  | 0, k => Nat.le_refl _
  | m + 1, k => by
    simp only [fwK, fwS]
    by_cases hq : k = m
    · rw [hq, updN_s]
      exact Nat.le_trans (Nat.min_le_left _ _) (fwK_dec m m)
    · rw [updN_n hq]
      exact fwK_dec m k
theorem fwB_dec {n : Nat} {a : Nat → Nat} : ∀ m k, fwB n m a k ≤ a k
  | 0, k => Nat.le_refl _
  | m + 1, k => Nat.le_trans (fwK_dec (n * n) k) (fwB_dec m k)
theorem ix_lt {n r c : Nat} (hr : r < n) (hc : c < n) : r * n + c < n * n := by
  have h1 : (r + 1) * n ≤ n * n := Nat.mul_le_mul_right n hr
  rw [Nat.succ_mul] at h1
  omega
theorem fwK_cong {n b : Nat} {a a' : Nat → Nat} (hb : b < n) (h : ∀ k, k < n * n → a k = a' k) : ∀ m, m ≤ n * n → ∀ k, k < n * n → fwK n b m a k = fwK n b m a' k
  | 0, _, k, hk => h k hk
  | m + 1, hm, k, hk => by
    have ih := fwK_cong hb h m (by omega)
    obtain ⟨q1, q2⟩ := dm_lt (k := m) (R := n) (C := n) (by omega)
    simp only [fwK, fwS]
    by_cases hq : k = m
    · rw [hq, updN_s, updN_s, ih m (by omega), ih _ (ix_lt q1 hb), ih _ (ix_lt hb q2)]
    · rw [updN_n hq, updN_n hq]
      exact ih k hk
theorem fwB_cong {n : Nat} {a a' : Nat → Nat} (h : ∀ k, k < n * n → a k = a' k) : ∀ m, m ≤ n → ∀ k, k < n * n → fwB n m a k = fwB n m a' k
  | 0, _, k, hk => h k hk
  | m + 1, hm, k, hk => fwK_cong (by omega) (fwB_cong h m (by omega)) (n * n) (Nat.le_refl _) k hk
/-- an entry that grows -/
def adN (x : Nat) (z : Int) : Nat := ((x : Int) + z).toNat
theorem adN_eq {x : Nat} {z : Int} (h : 0 ≤ (x : Int) + z) : nI x + iZ z = nI (adN x z) := by
  rw [nI_Z, iZ_add, nI_Z]
  congr 1
  simp only [adN]
  omega
theorem adN_ok {x : Nat} {z : Int} (hx : x ≤ 999) (h1 : -999 ≤ z) (h2 : z ≤ 999) {v : Nat} (hv : v < 1000) (h : nI x + iZ z = nI v) : 0 ≤ (x : Int) + z ∧ (x : Int) + z ≤ 999 := by
  rw [nI_Z, iZ_add, nI_Z, iZ_eq ⟨by omega, by omega⟩ ⟨by omega, by omega⟩] at h
  omega
/-- in which line a place lies, and where in it -/
def linN (b : Bool) (C k : Nat) : Nat := match b with
  | true => k / C
  | false => k % C
def posN (b : Bool) (C k : Nat) : Nat := match b with
  | true => k % C
  | false => k / C
theorem linN_pl {b : Bool} {C n i R : Nat} (hn : n < lnN b R C) (hi : i < lnN (!b) R C) : linN b C (plN b C n i) = n := by
  cases b
  · exact dm_mod hn
  · exact dm_div hi
theorem posN_pl {b : Bool} {C n i R : Nat} (hn : n < lnN b R C) (hi : i < lnN (!b) R C) : posN b C (plN b C n i) = i := by
  cases b
  · exact dm_div hn
  · exact dm_mod hi
theorem pl_lp {b : Bool} {C k : Nat} : plN b C (linN b C k) (posN b C k) = k := by
  cases b <;> exact dm_eq k C
theorem lp_lt {b : Bool} {R C k : Nat} (hk : k < R * C) : linN b C k < lnN b R C ∧ posN b C k < lnN (!b) R C := by
  obtain ⟨h1, h2⟩ := dm_lt hk
  cases b
  · exact ⟨h2, h1⟩
  · exact ⟨h1, h2⟩
/-- an array whose line n grows by z -/
def adL (b : Bool) (C n : Nat) (z : Int) (a : Nat → Nat) : Nat → Nat := fun k => if linN b C k = n then adN (a k) z else a k
/-- two lines exchanged -/
def swL (b : Bool) (C n o : Nat) (a : Nat → Nat) : Nat → Nat := fun k => if linN b C k = n then a (plN b C o (posN b C k)) else if linN b C k = o then a (plN b C n (posN b C k)) else a k
/-- where a place comes from when the line n goes -/
def rmN (b : Bool) (C n k : Nat) : Nat := match b with
  | true => if k / C < n then k else k + C
  | false => k / (C - 1) * C + (if k % (C - 1) < n then k % (C - 1) else k % (C - 1) + 1)
def okL (b : Bool) (R C n : Nat) (z : Int) (a : Nat → Nat) : Prop := ∀ k, k < lnN (!b) R C → 0 ≤ (a (plN b C n k) : Int) + z ∧ (a (plN b C n k) : Int) + z ≤ 999
theorem plN_lt {b : Bool} {R C n k : Nat} (hd : okD R C) (hn : n < lnN b R C) (hk : k < lnN (!b) R C) : plN b C n k < R * C := by
  cases b
  · exact hd.in hk hn
  · exact hd.in hn hk
section GRID4
variable {G : sG} {d : Nat} {P : sQ} {w : sW} {g e R C : Nat} {a : Nat → Nat}
theorem t_shortenWays (h : gAt G w g e R R a) (hd : okD R R) (ha : ∀ k, k < R * R → a k ≤ 999) (k : ∀ w', Fr w w' (sGE g e) → gAt G w' g e R R (fwB R R a) → P none w') : wpM G (d + 3) yX2_shortenWays (0, 0) [.ref g] w P := by
  have hsz := hd.2.2.2.2
  have d1 := hd.2.1
  refine eX2_shortenWays ?_
  refine qX2_shortenWays_0 ?_
  refine qX2_shortenWays_1 ?_
  have L1 : ∀ n b (w' : sW) (l2 l3 : Option Value), b + n = R → Fr w w' (sGE g e) → gAt G w' g e R R (fwB R b a) → wp G (d + 2) mX2_shortenWays P 2 [some (.ref g), some (.int (nI b)), l2, l3] [] w' (0, 0) := by
    intro n
    induction n with
    | zero =>
      intro b w' l2 l3 hb hF hw
      obtain ⟨z1, z2⟩ := id hw
      refine qX2_shortenWays_2 ?_
      refine qX2_shortenWays_3 ?_
      refine qX2_shortenWays_4 (by assumption) ?_
      refine nX2_shortenWays_7 (by omega) (by omega) (fun h7 => ?_) (fun h7 => by exfalso; omega)
      refine qX2_shortenWays_76 ?_
      exact k w' hF (by rw [show b = R by omega] at hw; exact hw)
    | succ n ih =>
      intro b w' l2 l3 hb hF hw
      obtain ⟨z1, z2⟩ := id hw
      have e0 : ∀ k, k < R * R → fwB R b a k ≤ 999 := fwB_le ha b
      refine qX2_shortenWays_2 ?_
      refine qX2_shortenWays_3 ?_
      refine qX2_shortenWays_4 (by assumption) ?_
      refine nX2_shortenWays_7 (by omega) (by omega) (fun h7 => by exfalso; omega) (fun h7 => ?_)
      refine qX2_shortenWays_10 ?_
      refine qX2_shortenWays_11 ?_
      have L2 : ∀ p r (w' : sW) (l3 : Option Value), r + p = R → Fr w w' (sGE g e) → gAt G w' g e R R (fwK R b (r * R) (fwB R b a)) → wp G (d + 2) mX2_shortenWays P 12 [some (.ref g), some (.int (nI b)), some (.int (nI r)), l3] [] w' (0, 0) := by
        intro p
        induction p with
        | zero =>
          intro r w' l3 hr hF hw
          obtain ⟨z1, z2⟩ := id hw
          refine qX2_shortenWays_12 ?_
          refine qX2_shortenWays_13 ?_
          refine qX2_shortenWays_14 (by assumption) ?_
          refine nX2_shortenWays_17 (by omega) (by omega) (fun h17 => ?_) (fun h17 => by exfalso; omega)
          first | refine nX2_shortenWays_70 ?_ | refine qX2_shortenWays_70 ?_
          refine qX2_shortenWays_73 ?_
          exact ih (b + 1) w' _ _ (by omega) hF (by rw [show r = R by omega] at hw; exact hw)
        | succ p ih2 =>
          intro r w' l3 hr hF hw
          obtain ⟨z1, z2⟩ := id hw
          refine qX2_shortenWays_12 ?_
          refine qX2_shortenWays_13 ?_
          refine qX2_shortenWays_14 (by assumption) ?_
          refine nX2_shortenWays_17 (by omega) (by omega) (fun h17 => by exfalso; omega) (fun h17 => ?_)
          refine qX2_shortenWays_20 ?_
          refine qX2_shortenWays_21 ?_
          have L3 : ∀ q c (w' : sW), c + q = R → Fr w w' (sGE g e) → gAt G w' g e R R (fwK R b (r * R + c) (fwB R b a)) → wp G (d + 2) mX2_shortenWays P 22 [some (.ref g), some (.int (nI b)), some (.int (nI r)), some (.int (nI c))] [] w' (0, 0) := by
            intro q
            induction q with
            | zero =>
              intro c w' hc hF hw
              obtain ⟨z1, z2⟩ := id hw
              refine qX2_shortenWays_22 ?_
              refine qX2_shortenWays_23 ?_
              refine qX2_shortenWays_24 (by assumption) ?_
              refine nX2_shortenWays_27 (by omega) (by omega) (fun h27 => ?_) (fun h27 => by exfalso; omega)
              first | refine nX2_shortenWays_64 ?_ | refine qX2_shortenWays_64 ?_
              refine qX2_shortenWays_67 ?_
              exact ih2 (r + 1) w' _ (by omega) hF (by rw [show r * R + c = (r + 1) * R by rw [Nat.succ_mul]; omega] at hw; exact hw)
            | succ q ih3 =>
              intro c w' hc hF hw
              obtain ⟨z1, z2⟩ := id hw
              have i1 : r * R + c < R * R := ix_lt (by omega) (by omega)
              have i2 : r * R + b < R * R := ix_lt (by omega) (by omega)
              have i3 : b * R + c < R * R := ix_lt (by omega) (by omega)
              have b1 := fwK_le (n := R) (b := b) e0 (r * R + c) _ i1
              have b2 := fwK_le (n := R) (b := b) e0 (r * R + c) _ i2
              have b3 := fwK_le (n := R) (b := b) e0 (r * R + c) _ i3
              refine qX2_shortenWays_22 ?_
              refine qX2_shortenWays_23 ?_
              refine qX2_shortenWays_24 (by assumption) ?_
              refine nX2_shortenWays_27 (by omega) (by omega) (fun h27 => by exfalso; omega) (fun h27 => ?_)
              refine qX2_shortenWays_30 ?_
              refine qX2_shortenWays_31 ?_
              refine qX2_shortenWays_32 ?_
              refine qX2_shortenWays_33 ?_
              refine qX2_shortenWays_34 ?_
              refine qX2_shortenWays_35 ?_
              refine qX2_shortenWays_36 (by assumption) (Nat.le_of_ble_eq_true rfl) (t_at hw (by omega) ?_)
              refine qX2_shortenWays_39 ?_
              refine qX2_shortenWays_40 ?_
              refine qX2_shortenWays_41 ?_
              refine qX2_shortenWays_42 (by assumption) (Nat.le_of_ble_eq_true rfl) (t_at hw (by omega) ?_)
              refine qX2_shortenWays_45 ?_
              refine qX2_shortenWays_46 ?_
              refine qX2_shortenWays_47 ?_
              refine qX2_shortenWays_48 (by assumption) (Nat.le_of_ble_eq_true rfl) (t_at hw (by omega) ?_)
              first | refine nX2_shortenWays_51 ?_ | refine qX2_shortenWays_51 ?_
              refine nX2_shortenWays_52 (by omega) (by omega) (Nat.le_of_ble_eq_true rfl) ?_
              refine qX2_shortenWays_55 (by assumption) (Nat.le_of_ble_eq_true rfl) (t_assign hw (by omega) ?_)
              first | refine nX2_shortenWays_58 ?_ | refine qX2_shortenWays_58 ?_
              refine qX2_shortenWays_61 ?_
              refine ih3 (c + 1) _ (by omega) (hF.up (Or.inr rfl)) ?_
              have e9 : fwK R b (r * R + (c + 1)) (fwB R b a) = updN (fwK R b (r * R + c) (fwB R b a)) (r * R + c) (min (fwK R b (r * R + c) (fwB R b a) (r * R + c)) (fwK R b (r * R + c) (fwB R b a) (r * R + b) + fwK R b (r * R + c) (fwB R b a) (b * R + c))) := by
                rw [← Nat.add_assoc]
                show fwS R b (r * R + c) (fwK R b (r * R + c) (fwB R b a)) = _
                simp only [fwS]
                rw [dm_div (by omega), dm_mod (by omega)]
              rw [e9]
              exact hw.upE
          exact L3 R 0 w' (by omega) hF hw
      exact L2 R 0 w' _ (by omega) hF (by rw [Nat.zero_mul]; exact hw)
  exact L1 R 0 w _ _ (by omega) Fr.rf h
theorem t_canAdd (b : Bool) {n : Nat} {z : Int} (h : gAt G w g e R C a) (hd : okD R C) (ha : ∀ k, k < R * C → a k ≤ 999) (hn : n < lnN b R C) (hz1 : -999 ≤ z) (hz2 : z ≤ 999) (kt : okL b R C n z a → P (some (.int (nI 1))) w) (kf : ¬ okL b R C n z a → P (some (.int (nI 0))) w) : wpM G (d + 3) yX2_canAdd (0, 0) [.ref g, .int (nI (bN b)), .int (nI n), .int (iZ z)] w P := by
  have hsz := hd.2.2.2.2
  have d1 := hd.2.1
  have d2 := hd.2.2.2.1
  have dl : lnN (!b) R C ≤ 4 := by cases b <;> assumption
  obtain ⟨z1, z2⟩ := id h
  refine eX2_canAdd ?_
  refine qX2_canAdd_0 ?_
  refine qX2_canAdd_1 ?_
  have key : ∀ i, wp G (d + 2) mX2_canAdd P 18 [some (.ref g), some (.int (nI (bN b))), some (.int (nI n)), some (.int (iZ z)), some (.int (nI i))] [.int (nI (lnN (!b) R C)), .int (nI i)] w (0, 0) → wp G (d + 2) mX2_canAdd P 3 [some (.ref g), some (.int (nI (bN b))), some (.int (nI n)), some (.int (iZ z)), some (.int (nI i))] [] w (0, 0) := by
    intro i kk
    refine qX2_canAdd_3 ?_
    refine qX2_canAdd_5 ?_
    refine qX2_canAdd_6 ?_
    cases b
    · refine nX2_canAdd_7 (by decide) (fun h => absurd rfl h) (fun _ => ?_)
      refine qX2_canAdd_10 ?_
      refine qX2_canAdd_11 ?_
      refine qX2_canAdd_15 (by assumption) (Nat.le_of_ble_eq_true rfl) (t_lines true h ?_)
      exact kk
    · refine nX2_canAdd_7 (by decide) (fun _ => ?_) (fun h => absurd h (by decide))
      refine qX2_canAdd_14 ?_
      refine qX2_canAdd_15 (by assumption) (Nat.le_of_ble_eq_true rfl) (t_lines false h ?_)
      exact kk
  have L : ∀ m i, i + m = lnN (!b) R C → (∀ k, k < i → 0 ≤ (a (plN b C n k) : Int) + z ∧ (a (plN b C n k) : Int) + z ≤ 999) → wp G (d + 2) mX2_canAdd P 3 [some (.ref g), some (.int (nI (bN b))), some (.int (nI n)), some (.int (iZ z)), some (.int (nI i))] [] w (0, 0) := by
    intro m
    induction m with
    | zero =>
      intro i hi hq
      refine key i ?_
      refine nX2_canAdd_18 (by omega) (by omega) (fun h18 => ?_) (fun h18 => by exfalso; omega)
      refine qX2_canAdd_50 ?_
      refine qX2_canAdd_51 rfl ?_
      exact kt (fun k hk => hq k (by omega))
    | succ m ih =>
      intro i hi hq
      have ip := plN_lt (k := i) hd hn (by omega)
      have ha2 := ha _ ip
      refine key i ?_
      refine nX2_canAdd_18 (by omega) (by omega) (fun h18 => by exfalso; omega) (fun h18 => ?_)
      refine qX2_canAdd_21 ?_
      refine qX2_canAdd_22 (by assumption) ?_
      refine qX2_canAdd_25 ?_
      refine qX2_canAdd_26 ?_
      refine qX2_canAdd_27 ?_
      refine qX2_canAdd_28 ?_
      refine qX2_canAdd_30 (by assumption) (Nat.le_of_ble_eq_true rfl) (t_placeInLine b h ?_)
      first | refine fX2_canAdd_33 (by assumption) (by omega) (by decide) ?_ | refine nX2_canAdd_33 (by assumption) (by omega) (by decide) ?_
      refine qX2_canAdd_34 ?_
      first | refine nX2_canAdd_35 ?_ | refine qX2_canAdd_35 ?_
      refine qX2_canAdd_36 (Nat.le_of_ble_eq_true rfl) (t_isValue (fun v hv hx => ?_) (fun hx => ?_))
      · refine nX2_canAdd_39 (by omega) (fun h39 => ?_) (fun h39 => by exfalso; omega)
        first | refine nX2_canAdd_44 ?_ | refine qX2_canAdd_44 ?_
        refine qX2_canAdd_47 ?_
        refine ih (i + 1) (by omega) (fun k hk => ?_)
        by_cases hki : k = i
        · rw [hki]; exact adN_ok ha2 hz1 hz2 hv hx
        · exact hq k (by omega)
      · refine nX2_canAdd_39 (by omega) (fun h39 => by exfalso; omega) (fun h39 => ?_)
        refine qX2_canAdd_42 ?_
        refine qX2_canAdd_43 rfl ?_
        exact kf (fun hok => hx ⟨adN (a (plN b C n i)) z, by
          have := hok i (by omega)
          simp only [adN]
          omega, adN_eq (hok i (by omega)).1⟩)
  exact L (lnN (!b) R C) 0 (by omega) (fun k hk => absurd hk (Nat.not_lt_zero k))
theorem t_add (b : Bool) {n : Nat} {z : Int} (h : gAt G w g e R C a) (hd : okD R C) (ha : ∀ k, k < R * C → a k ≤ 999) (hn : n < lnN b R C) (hok : okL b R C n z a) (k : ∀ w' a', Fr w w' (sGE g e) → gAt G w' g e R C a' → (∀ k, k < R * C → a' k = adL b C n z a k) → P none w') : wpM G (d + 3) yX2_add (0, 0) [.ref g, .int (nI (bN b)), .int (nI n), .int (iZ z)] w P := by
  have hsz := hd.2.2.2.2
  have d1 := hd.2.1
  have d2 := hd.2.2.2.1
  have dl : lnN (!b) R C ≤ 4 := by cases b <;> assumption
  refine eX2_add ?_
  refine qX2_add_0 ?_
  refine qX2_add_1 ?_
  have key : ∀ i (w' : sW) (a' : Nat → Nat), gAt G w' g e R C a' → wp G (d + 2) mX2_add P 18 [some (.ref g), some (.int (nI (bN b))), some (.int (nI n)), some (.int (iZ z)), some (.int (nI i))] [.int (nI (lnN (!b) R C)), .int (nI i)] w' (0, 0) → wp G (d + 2) mX2_add P 3 [some (.ref g), some (.int (nI (bN b))), some (.int (nI n)), some (.int (iZ z)), some (.int (nI i))] [] w' (0, 0) := by
    intro i w' a' hw kk
    obtain ⟨z1, z2⟩ := id hw
    refine qX2_add_3 ?_
    refine qX2_add_5 ?_
    refine qX2_add_6 ?_
    cases b
    · refine nX2_add_7 (by decide) (fun h => absurd rfl h) (fun _ => ?_)
      refine qX2_add_10 ?_
      refine qX2_add_11 ?_
      refine qX2_add_15 (by assumption) (Nat.le_of_ble_eq_true rfl) (t_lines true hw ?_)
      exact kk
    · refine nX2_add_7 (by decide) (fun _ => ?_) (fun h => absurd h (by decide))
      refine qX2_add_14 ?_
      refine qX2_add_15 (by assumption) (Nat.le_of_ble_eq_true rfl) (t_lines false hw ?_)
      exact kk
  have L : ∀ m i (w' : sW) (a' : Nat → Nat), i + m = lnN (!b) R C → Fr w w' (sGE g e) → gAt G w' g e R C a' → (∀ k, k < R * C → a' k = if linN b C k = n ∧ posN b C k < i then adN (a k) z else a k) → wp G (d + 2) mX2_add P 3 [some (.ref g), some (.int (nI (bN b))), some (.int (nI n)), some (.int (iZ z)), some (.int (nI i))] [] w' (0, 0) := by
    intro m
    induction m with
    | zero =>
      intro i w' a' hi hF hw hq
      refine key i w' a' hw ?_
      refine nX2_add_18 (by omega) (by omega) (fun h18 => ?_) (fun h18 => by exfalso; omega)
      refine qX2_add_44 ?_
      refine k w' a' hF hw (fun k hk => ?_)
      rw [hq k hk]
      have := (lp_lt (b := b) hk).2
      simp only [adL]
      by_cases h1 : linN b C k = n
      · rw [if_pos ⟨h1, by omega⟩, if_pos h1]
      · rw [if_neg (fun z => h1 z.1), if_neg h1]
    | succ m ih =>
      intro i w' a' hi hF hw hq
      have ip := plN_lt (k := i) hd hn (by omega)
      have hlt : i < lnN (!b) R C := by omega
      obtain ⟨z1, z2⟩ := id hw
      refine key i w' a' hw ?_
      refine nX2_add_18 (by omega) (by omega) (fun h18 => by exfalso; omega) (fun h18 => ?_)
      refine qX2_add_21 ?_
      refine qX2_add_22 (by assumption) ?_
      refine qX2_add_25 ?_
      refine qX2_add_26 ?_
      refine qX2_add_27 ?_
      refine qX2_add_28 ?_
      refine qX2_add_30 (by assumption) (Nat.le_of_ble_eq_true rfl) (t_placeInLine b hw ?_)
      have hv : a' (plN b C n i) = a (plN b C n i) := by
        rw [hq _ ip, if_neg (fun z => by rw [posN_pl hn hlt] at z; omega)]
      refine qX2_add_33 rfl rfl ?_
      first | refine fX2_add_34 (by assumption) (by omega) (by decide) ?_ | refine nX2_add_34 (by assumption) (by omega) (by decide) ?_
      refine qX2_add_35 ?_
      first | refine nX2_add_36 ?_ | refine qX2_add_36 ?_
      rw [hv, adN_eq (hok i hlt).1]
      first | refine fX2_add_37 (by assumption) (by omega) (by decide) ?_ | refine nX2_add_37 (by assumption) (by omega) (by decide) ?_
      first | refine nX2_add_38 ?_ | refine qX2_add_38 ?_
      refine qX2_add_41 ?_
      refine ih (i + 1) _ _ (by omega) (hF.up (Or.inr rfl)) hw.upE (fun k hk => ?_)
      by_cases hk2 : k = plN b C n i
      · rw [hk2, updN_s, if_pos ⟨linN_pl hn hlt, by rw [posN_pl hn hlt]; omega⟩]
      · rw [updN_n hk2, hq k hk]
        by_cases h1 : linN b C k = n
        · have h2 : posN b C k ≠ i := fun z => hk2 (by rw [← h1, ← z]; exact pl_lp.symm)
          by_cases h3 : posN b C k < i
          · rw [if_pos ⟨h1, h3⟩, if_pos ⟨h1, by omega⟩]
          · rw [if_neg (fun z => h3 z.2), if_neg (fun z => h3 (by omega))]
        · rw [if_neg (fun z => h1 z.1), if_neg (fun z => h1 z.1)]
  exact L (lnN (!b) R C) 0 w a (by omega) Fr.rf h (fun k hk => by rw [if_neg (fun z => absurd z.2 (Nat.not_lt_zero _))])
end GRID4
