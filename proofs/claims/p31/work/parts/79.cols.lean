/-! numbers for places: the search with and without the cut, the fewest -/
def gS (U : Nat → Bool) (rec : (Nat → Nat) → Option (List Nat)) (pw : Nat → Nat) (kk pl : Nat) : Nat → Option (List Nat)
  | 0 => none
  | q + 1 => if U (pw (kk - (q + 1)) ||| 1 <<< pl) = false ∧ (rec (updN pw (kk - (q + 1)) (pw (kk - (q + 1)) ||| 1 <<< pl))).isSome = true then (rec (updN pw (kk - (q + 1)) (pw (kk - (q + 1)) ||| 1 <<< pl))).map (fun l => (kk - (q + 1)) :: l) else gS U rec pw kk pl q
def gT (U : Nat → Bool) (kk : Nat) : Nat → Nat → (Nat → Nat) → Option (List Nat)
  | 0, _, _ => some []
  | m + 1, pl, pw => gS U (gT U kk m (pl + 1)) pw kk pl kk
def exC (U : Nat → Bool) (kk : Nat) : Nat → Nat → (Nat → Nat) → Prop
  | 0, _, _ => True
  | m + 1, pl, pw => ∃ q, q < kk ∧ U (pw q ||| 1 <<< pl) = false ∧ exC U kk m (pl + 1) (updN pw q (pw q ||| 1 <<< pl))
theorem gS_some {U : Nat → Bool} {rec : (Nat → Nat) → Option (List Nat)} {pw : Nat → Nat} {kk pl : Nat} : ∀ q, q ≤ kk → ((gS U rec pw kk pl q).isSome = true ↔ ∃ n, kk - q ≤ n ∧ n < kk ∧ U (pw n ||| 1 <<< pl) = false ∧ (rec (updN pw n (pw n ||| 1 <<< pl))).isSome = true)
  | 0, _ => by
    constructor
    · intro h; exact absurd h (by simp [gS])
    · rintro ⟨n, h1, h2, _⟩; omega
  | q + 1, hq => by
    simp only [gS]
    split
    · next h =>
      constructor
      · intro _; exact ⟨kk - (q + 1), Nat.le_refl _, by omega, h.1, h.2⟩
      · intro _
        rw [Option.isSome_map]
        exact h.2
    · next h =>
      rw [gS_some q (by omega)]
      constructor
      · rintro ⟨n, h1, h2, h3⟩; exact ⟨n, by omega, h2, h3⟩
      · rintro ⟨n, h1, h2, h3⟩
        by_cases hn : n = kk - (q + 1)
        · subst hn; exact absurd h3 h
        · exact ⟨n, by omega, h2, h3⟩
theorem gT_ex {U : Nat → Bool} {kk : Nat} : ∀ m pl pw, (gT U kk m pl pw).isSome = true ↔ exC U kk m pl pw
  | 0, _, _ => by simp [gT, exC]
  | m + 1, pl, pw => by
    simp only [gT, exC]
    rw [gS_some kk (Nat.le_refl _)]
    constructor
    · rintro ⟨n, _, h2, h3, h4⟩; exact ⟨n, h2, h3, (gT_ex m _ _).mp h4⟩
    · rintro ⟨n, h2, h3, h4⟩; exact ⟨n, by omega, h2, h3, (gT_ex m _ _).mpr h4⟩
theorem exC_swap {U : Nat → Bool} {kk : Nat} {σ : Nat → Nat} (h1 : ∀ x, σ (σ x) = x) (h2 : ∀ x, x < kk → σ x < kk) : ∀ m pl pw, exC U kk m pl pw → exC U kk m pl (fun q => pw (σ q))
  | 0, _, _, _ => trivial
  | m + 1, pl, pw, h => by
    obtain ⟨q, hq, hU, he⟩ := h
    refine ⟨σ q, h2 q hq, by show U (pw (σ (σ q)) ||| 1 <<< pl) = false; rw [h1]; exact hU, ?_⟩
    have := exC_swap h1 h2 m _ _ he
    have e : (fun y => updN pw q (pw q ||| 1 <<< pl) (σ y)) = updN (fun q => pw (σ q)) (σ q) (pw (σ (σ q)) ||| 1 <<< pl) := by
      funext y
      by_cases hy : y = σ q
      · subst hy; rw [updN_s, h1, updN_s]
      · rw [updN_n hy, updN_n (fun z => hy (by rw [← z, h1]))]
    rw [← e]
    exact this
def swN (n n' : Nat) : Nat → Nat := fun x => if x = n then n' else if x = n' then n else x
theorem swN_inv {n n' : Nat} (x : Nat) : swN n n' (swN n n' x) = x := by
  unfold swN
  by_cases h1 : x = n
  · subst h1
    rw [if_pos rfl]
    by_cases h2 : n' = x
    · rw [if_pos h2, h2]
    · rw [if_neg h2, if_pos rfl]
  · rw [if_neg h1]
    by_cases h2 : x = n'
    · subst h2; rw [if_pos rfl, if_pos rfl]
    · rw [if_neg h2, if_neg h1, if_neg h2]
def invP (kk : Nat) (pw : Nat → Nat) : Prop := ∀ q q', q < q' → q' < kk → pw q = 0 → pw q' = 0
theorem bit_ne0 (x pl : Nat) : x ||| 1 <<< pl ≠ 0 := by
  intro h
  have : (x ||| 1 <<< pl).testBit pl = true := by
    rw [Nat.testBit_or, Nat.one_shiftLeft, Nat.testBit_two_pow_self, Bool.or_true]
  rw [h] at this
  simp at this
theorem flT_gT {U : Nat → Bool} {kk : Nat} : ∀ m pl pw, invP kk pw → flT U kk m pl pw = gT U kk m pl pw
  | 0, _, _, _ => rfl
  | m + 1, pl, pw, hI => by
    have L : ∀ q, q ≤ kk → (∀ n, n < kk - q → pw n ≠ 0) → flS U (flT U kk m (pl + 1)) pw kk pl q = gS U (gT U kk m (pl + 1)) pw kk pl q := by
      intro q
      induction q with
      | zero => intro _ _; rfl
      | succ q ih =>
        intro hq hne
        have hI2 : invP kk (updN pw (kk - (q + 1)) (pw (kk - (q + 1)) ||| 1 <<< pl)) := by
          intro a b hab hb h0
          have ha : a ≠ kk - (q + 1) := fun z => by
            rw [z, updN_s] at h0
            exact bit_ne0 _ _ h0
          rw [updN_n ha] at h0
          have hlt : ¬ a < kk - (q + 1) := fun z => hne a z h0
          rw [updN_n (by omega)]
          exact hI a b hab hb h0
        have e := flT_gT (U := U) m (pl + 1) _ hI2
        simp only [flS, gS]
        rw [e]
        split
        · rfl
        · next hc =>
          by_cases h0 : pw (kk - (q + 1)) = 0
          · rw [if_pos h0]
            cases hg : gS U (gT U kk m (pl + 1)) pw kk pl q with
            | none => rfl
            | some l =>
              exfalso
              have hs : (gS U (gT U kk m (pl + 1)) pw kk pl q).isSome = true := by rw [hg]; rfl
              obtain ⟨n, n1, n2, n3, n4⟩ := (gS_some q (by omega)).mp hs
              have hp : pw n = 0 := hI (kk - (q + 1)) n (by omega) n2 h0
              refine hc ⟨by rw [h0, ← hp]; exact n3, ?_⟩
              rw [gT_ex] at n4 ⊢
              have := exC_swap (swN_inv (n := kk - (q + 1)) (n' := n)) (fun x hx => by
                unfold swN
                split
                · exact n2
                · split
                  · omega
                  · exact hx) _ _ _ n4
              have e2 : (fun y => updN pw n (pw n ||| 1 <<< pl) (swN (kk - (q + 1)) n y)) = updN pw (kk - (q + 1)) (pw (kk - (q + 1)) ||| 1 <<< pl) := by
                funext y
                unfold swN
                by_cases y1 : y = kk - (q + 1)
                · rw [if_pos y1, updN_s, y1, updN_s, hp, h0]
                · rw [if_neg y1, updN_n y1]
                  by_cases y2 : y = n
                  · rw [if_pos y2, updN_n (by omega), y2, hp, h0]
                  · rw [if_neg y2, updN_n y2]
              rw [e2] at this
              exact this
          · rw [if_neg h0]
            refine ih (by omega) (fun n hn => ?_)
            by_cases hnn : n = kk - (q + 1)
            · rw [hnn]; exact h0
            · exact hne n (by omega)
    exact L kk (Nat.le_refl _) (fun n hn => by omega)
theorem fiL_gT {U : Nat → Bool} {n r : Nat} : fiL U n r = gT U r n 0 (fun _ => 0) := flT_gT n 0 _ (fun _ _ _ _ _ => rfl)
/-- what is not below a set of places -/
def subB (S T : Nat) : Prop := ∀ x, S.testBit x = true → T.testBit x = true
def monU (n : Nat) (U : Nat → Bool) : Prop := ∀ S T, T < 2 ^ n → subB S T → U T = false → U S = false
def colR (U : Nat → Bool) (n r S : Nat) : Prop := ∃ f : Nat → Nat, (∀ i, i < n → S.testBit i = true → f i < r) ∧ ∀ q, q < r → U (mkB (fun i => S.testBit i && decide (f i = q)) n) = false
def segB (n pl : Nat) (f : Nat → Nat) (q : Nat) : Nat := mkB (fun i => decide (pl ≤ i) && decide (f i = q)) n
theorem segB_step {n pl : Nat} {f pw : Nat → Nat} {q : Nat} (hpl : pl < n) : updN pw (f pl) (pw (f pl) ||| 1 <<< pl) q ||| segB n (pl + 1) f q = pw q ||| segB n pl f q := by
  apply Nat.eq_of_testBit_eq
  intro j
  unfold segB
  rw [Nat.testBit_or, Nat.testBit_or, mkB_bit, mkB_bit]
  by_cases hq : q = f pl
  · subst hq
    rw [updN_s, Nat.testBit_or, Nat.one_shiftLeft, Nat.testBit_two_pow]
    by_cases hj : pl = j
    · subst hj; simp [hpl]
    · by_cases h2 : pl ≤ j
      · simp [hj, h2, show pl + 1 ≤ j by omega]
      · simp [hj, h2, show ¬ pl + 1 ≤ j by omega]
  · rw [updN_n hq]
    by_cases hj : pl = j
    · subst hj; simp [Ne.symm hq]
    · by_cases h2 : pl ≤ j
      · simp [h2, show pl + 1 ≤ j by omega]
      · simp [h2, show ¬ pl + 1 ≤ j by omega]
theorem ex_col {U : Nat → Bool} {n r : Nat} (hm : monU n U) : ∀ m pl pw, pl + m = n → (∀ q, q < r → pw q < 2 ^ n) → (∀ q, q < r → U (pw q) = false) → (exC U r m pl pw ↔ ∃ f : Nat → Nat, (∀ i, pl ≤ i → i < n → f i < r) ∧ ∀ q, q < r → U (pw q ||| segB n pl f q) = false)
  | 0, pl, pw, hp, hb, h0 => by
    have e : ∀ f q, segB n pl f q = 0 := by
      intro f q
      apply Nat.eq_of_testBit_eq
      intro j
      unfold segB
      rw [mkB_bit]
      by_cases h1 : j < n
      · simp [show ¬ pl ≤ j by omega]
      · simp [h1]
    constructor
    · intro _
      exact ⟨fun _ => 0, fun i h1 h2 => by omega, fun q hq => by rw [e, Nat.or_zero]; exact h0 q hq⟩
    · intro _; trivial
  | m + 1, pl, pw, hp, hb, h0 => by
    have hbit : 1 <<< pl < 2 ^ n := by rw [Nat.one_shiftLeft]; exact Nat.pow_lt_pow_right (by decide) (by omega)
    constructor
    · rintro ⟨q0, hq0, hU, he⟩
      obtain ⟨f, f1, f2⟩ := (ex_col hm m (pl + 1) _ (by omega) (fun q hq => by
        by_cases hqq : q = q0
        · subst hqq; rw [updN_s]; exact Nat.or_lt_two_pow (hb q hq) hbit
        · rw [updN_n hqq]; exact hb q hq) (fun q hq => by
        by_cases hqq : q = q0
        · subst hqq; rw [updN_s]; exact hU
        · rw [updN_n hqq]; exact h0 q hq)).mp he
      refine ⟨updN f pl q0, fun i h1 h2 => ?_, fun q hq => ?_⟩
      · by_cases hi : i = pl
        · subst hi; rw [updN_s]; exact hq0
        · rw [updN_n hi]; exact f1 i (by omega) h2
      · rw [← segB_step (pl := pl) (by omega), updN_s]
        have e : segB n (pl + 1) (updN f pl q0) q = segB n (pl + 1) f q := by
          unfold segB
          refine mkB_ext (fun i hi => ?_)
          by_cases h : pl + 1 ≤ i
          · rw [updN_n (by omega)]
          · simp [h]
        rw [e]
        exact f2 q hq
    · rintro ⟨f, f1, f2⟩
      have hfp := f1 pl (Nat.le_refl _) (by omega)
      have hU : U (pw (f pl) ||| 1 <<< pl) = false := by
        refine hm _ _ (Nat.or_lt_two_pow (hb _ hfp) (mkB_lt _ n)) (fun x hx => ?_) (f2 _ hfp)
        rw [Nat.testBit_or, Nat.one_shiftLeft, Nat.testBit_two_pow, Bool.or_eq_true, decide_eq_true_eq] at hx
        rw [Nat.testBit_or, Bool.or_eq_true]
        rcases hx with hx | hx
        · exact Or.inl hx
        · subst hx
          refine Or.inr ?_
          rw [mkB_bit]
          simp
          omega
      refine ⟨f pl, hfp, hU, (ex_col hm m (pl + 1) _ (by omega) (fun q hq => by
        by_cases hqq : q = f pl
        · subst hqq; rw [updN_s]; exact Nat.or_lt_two_pow (hb _ hq) hbit
        · rw [updN_n hqq]; exact hb q hq) (fun q hq => by
        by_cases hqq : q = f pl
        · subst hqq; rw [updN_s]; exact hU
        · rw [updN_n hqq]; exact h0 q hq)).mpr ⟨f, fun i h1 h2 => f1 i (by omega) h2, fun q hq => ?_⟩⟩
      rw [segB_step (by omega)]
      exact f2 q hq
theorem all_bit {n i : Nat} (h : i < n) : (2 ^ n - 1).testBit i = true := by
  rw [Nat.testBit_two_pow_sub_one, decide_eq_true h]
theorem fi_col {U : Nat → Bool} {n r : Nat} (hm : monU n U) (h0 : U 0 = false) : (fiL U n r).isSome = true ↔ colR U n r (2 ^ n - 1) := by
  rw [fiL_gT, gT_ex, ex_col hm n 0 _ (by omega) (fun _ _ => Nat.two_pow_pos n) (fun _ _ => h0)]
  have e : ∀ f q, (0 : Nat) ||| segB n 0 f q = mkB (fun i => (2 ^ n - 1).testBit i && decide (f i = q)) n := by
    intro f q
    rw [Nat.zero_or]
    unfold segB
    refine mkB_ext (fun i hi => ?_)
    rw [all_bit hi]
    simp
  constructor
  · rintro ⟨f, f1, f2⟩
    exact ⟨f, fun i hi _ => f1 i (Nat.zero_le _) hi, fun q hq => by rw [← e]; exact f2 q hq⟩
  · rintro ⟨f, f1, f2⟩
    exact ⟨f, fun i _ hi => f1 i hi (all_bit hi), fun q hq => by rw [e]; exact f2 q hq⟩
/-- the fewest sets, by the least place of each set of places -/
def fwOK (U : Nat → Bool) (n : Nat) (F lb : Nat → Nat) : Prop := F 0 = 0 ∧ ∀ S, 0 < S → S < 2 ^ n → S.testBit (lb S) = true ∧ (∀ T, subB T (S ^^^ 2 ^ lb S) → U (T ||| 2 ^ lb S) = false → F S ≤ F ((S ^^^ 2 ^ lb S) ^^^ T) + 1) ∧ (F S = 13 ∨ ∃ T, subB T (S ^^^ 2 ^ lb S) ∧ U (T ||| 2 ^ lb S) = false ∧ F S = F ((S ^^^ 2 ^ lb S) ^^^ T) + 1)
theorem sub_le {S T : Nat} (h : subB S T) : S ≤ T := by
  have : S &&& T = S := by
    apply Nat.eq_of_testBit_eq
    intro j
    rw [Nat.testBit_and]
    cases hq : S.testBit j with
    | false => simp
    | true => rw [h j hq]; rfl
  rw [← this]
  exact Nat.and_le_right
theorem fw_col {U : Nat → Bool} {n : Nat} {F lb : Nat → Nat} (hm : monU n U) (hn : n ≤ 12) (h1 : ∀ x, x < n → U (2 ^ x) = false) (h0 : U 0 = false) (h : fwOK U n F lb) : ∀ N S, S ≤ N → S < 2 ^ n → (∀ r, colR U n r S → F S ≤ r) ∧ colR U n (F S) S := by
  obtain ⟨hF0, hF⟩ := h
  have triv : ∀ S, colR U n n S := fun S => ⟨fun i => i, fun i hi _ => hi, fun q hq => by
    refine hm _ (2 ^ q) (Nat.pow_lt_pow_right (by decide) hq) (fun x hx => ?_) (h1 q hq)
    rw [mkB_bit] at hx
    simp at hx
    rw [hx.2.2, Nat.testBit_two_pow_self]⟩
  intro N
  induction N with
  | zero =>
    intro S hS hS2
    have : S = 0 := by omega
    subst this
    rw [hF0]
    exact ⟨fun r _ => Nat.zero_le r, fun _ => 0, fun i _ hi => by simp at hi, fun q hq => absurd hq (Nat.not_lt_zero q)⟩
  | succ N ih =>
    intro S hS hS2
    by_cases hz : S = 0
    · subst hz
      exact ih 0 (Nat.zero_le _) hS2
    obtain ⟨g1, g2, g3⟩ := hF S (by omega) hS2
    generalize hb : lb S = b at g1 g2 g3
    have hbn : b < n := by
      apply Nat.lt_of_not_le
      intro hle
      have := Nat.testBit_lt_two_pow (Nat.lt_of_lt_of_le hS2 (Nat.pow_le_pow_right (by decide) hle))
      rw [this] at g1
      exact absurd g1 (by decide)
    have rb : ∀ x, (S ^^^ 2 ^ b).testBit x = (S.testBit x && !decide (x = b)) := by
      intro x
      rw [Nat.testBit_xor, Nat.testBit_two_pow]
      by_cases hx : b = x
      · subst hx; simp [g1]
      · simp [hx, Ne.symm hx]
    -- what is left is less
    have lft : ∀ T, subB T (S ^^^ 2 ^ b) → (∀ x, ((S ^^^ 2 ^ b) ^^^ T).testBit x = (S.testBit x && !decide (x = b) && !T.testBit x)) ∧ (S ^^^ 2 ^ b) ^^^ T ≤ N ∧ (S ^^^ 2 ^ b) ^^^ T < 2 ^ n := by
      intro T hT
      have bb : ∀ x, ((S ^^^ 2 ^ b) ^^^ T).testBit x = (S.testBit x && !decide (x = b) && !T.testBit x) := by
        intro x
        rw [Nat.testBit_xor, rb]
        cases hq : T.testBit x with
        | false => simp
        | true =>
          have := hT x hq
          rw [rb] at this
          rw [this]
          rfl
      have hsub : subB ((S ^^^ 2 ^ b) ^^^ T) S := fun x hx => by
        rw [bb] at hx
        simp at hx
        exact hx.1.1
      have hle := sub_le hsub
      have hne : (S ^^^ 2 ^ b) ^^^ T ≠ S := fun z => by
        have := bb b
        rw [z, g1] at this
        simp at this
      exact ⟨bb, by omega, by omega⟩
    have part1 : ∀ r, colR U n r S → F S ≤ r := by
      rintro r ⟨f, f1, f2⟩
      have hfb := f1 b hbn g1
      have hTb : ∀ x, (mkB (fun i => S.testBit i && !decide (i = b) && decide (f i = f b)) n).testBit x = (decide (x < n) && (S.testBit x && !decide (x = b) && decide (f x = f b))) := fun x => mkB_bit _ x n
      generalize mkB (fun i => S.testBit i && !decide (i = b) && decide (f i = f b)) n = T at hTb
      have hT : subB T (S ^^^ 2 ^ b) := fun x hx => by
        rw [hTb] at hx
        rw [rb]
        simp at hx ⊢
        exact ⟨hx.2.1.1, hx.2.1.2⟩
      have hU : U (T ||| 2 ^ b) = false := by
        refine hm _ _ (mkB_lt _ n) (fun x hx => ?_) (f2 (f b) hfb)
        rw [mkB_bit]
        rw [Nat.testBit_or, Nat.testBit_two_pow, hTb] at hx
        simp at hx ⊢
        rcases hx with hx | hx
        · exact ⟨hx.1, hx.2.1.1, hx.2.2⟩
        · subst hx; exact ⟨hbn, g1, rfl⟩
      obtain ⟨bb, l1, l2⟩ := lft T hT
      have := g2 T hT hU
      have hc : colR U n (r - 1) ((S ^^^ 2 ^ b) ^^^ T) := by
        have inS : ∀ i, i < n → ((S ^^^ 2 ^ b) ^^^ T).testBit i = true → S.testBit i = true ∧ f i ≠ f b := fun i hi hx => by
          rw [bb, hTb] at hx
          simp at hx
          refine ⟨hx.1.1, fun z => ?_⟩
          rcases hx.2 with y | (y | y) | y
          · omega
          · rw [hx.1.1] at y; exact absurd y (by decide)
          · exact hx.1.2 y
          · exact y z
        refine ⟨fun i => if f i = r - 1 then f b else f i, fun i hi hx => ?_, fun q hq => ?_⟩
        · obtain ⟨a1, a2⟩ := inS i hi hx
          have := f1 i hi a1
          show (if f i = r - 1 then f b else f i) < r - 1
          split
          · omega
          · omega
        · refine hm _ _ (mkB_lt _ n) (fun x hx => ?_) (f2 (if q = f b then r - 1 else q) (by split <;> omega))
          rw [mkB_bit] at hx ⊢
          simp only [Bool.and_eq_true, decide_eq_true_eq] at hx ⊢
          obtain ⟨x1, x2, x3⟩ := hx
          obtain ⟨a1, a2⟩ := inS x x1 x2
          refine ⟨x1, a1, ?_⟩
          have x3 : (if f x = r - 1 then f b else f x) = q := x3
          by_cases c : f x = r - 1
          · rw [if_pos c] at x3
            rw [if_pos x3.symm]
            exact c
          · rw [if_neg c] at x3
            rw [if_neg (fun z => a2 (x3.trans z))]
            exact x3
      have := (ih _ l1 l2).1 _ hc
      omega
    refine ⟨part1, ?_⟩
    have hle := part1 n (triv S)
    rcases g3 with g3 | ⟨T, hT, hU, he⟩
    · omega
    · obtain ⟨bb, l1, l2⟩ := lft T hT
      obtain ⟨f, f1, f2⟩ := (ih _ l1 l2).2
      rw [he]
      generalize hS' : (S ^^^ 2 ^ b) ^^^ T = S' at *
      refine ⟨fun i => if S'.testBit i = true then f i else F S', fun i hi hx => ?_, fun q hq => ?_⟩
      · show (if S'.testBit i = true then f i else F S') < F S' + 1
        split
        · next hc => have := f1 i hi hc; omega
        · omega
      · by_cases hqF : q = F S'
        · have hTlt : T ||| 2 ^ b < 2 ^ n := by
            have h1 := sub_le hT
            have h2 : S ^^^ 2 ^ b < 2 ^ n := Nat.xor_lt_two_pow hS2 (Nat.pow_lt_pow_right (by decide) hbn)
            exact Nat.or_lt_two_pow (by omega) (Nat.pow_lt_pow_right (by decide) hbn)
          refine hm _ _ hTlt (fun x hx => ?_) hU
          rw [mkB_bit] at hx
          simp only [Bool.and_eq_true, decide_eq_true_eq] at hx
          obtain ⟨x1, x2, x3⟩ := hx
          have x3 : (if S'.testBit x = true then f x else F S') = q := x3
          rw [Nat.testBit_or, Nat.testBit_two_pow, Bool.or_eq_true, decide_eq_true_eq]
          by_cases c : S'.testBit x = true
          · rw [if_pos c] at x3
            have := f1 x x1 c
            omega
          · rw [bb] at c
            simp only [x2, Bool.true_and, Bool.and_eq_true, Bool.not_eq_true', decide_eq_false_iff_not] at c
            by_cases hxb : b = x
            · exact Or.inr hxb
            · left
              cases hq2 : T.testBit x with
              | true => rfl
              | false => exact absurd ⟨Ne.symm hxb, hq2⟩ c
        · refine hm _ _ (mkB_lt _ n) (fun x hx => ?_) (f2 q (by omega))
          rw [mkB_bit] at hx ⊢
          simp only [Bool.and_eq_true, decide_eq_true_eq] at hx ⊢
          obtain ⟨x1, x2, x3⟩ := hx
          have x3 : (if S'.testBit x = true then f x else F S') = q := x3
          by_cases c : S'.testBit x = true
          · rw [if_pos c] at x3
            exact ⟨x1, c, x3⟩
          · rw [if_neg c] at x3
            exact absurd x3.symm hqF
theorem ffN_eq {U : Nat → Bool} {n r : Nat} (h1 : 1 ≤ r) (hr : r ≤ n) (hs : (fiL U n r).isSome = true) (hl : ∀ q, q < r → ¬ (fiL U n q).isSome = true) : ∀ m, m ≤ n → n - m < r → ffN U n m = (r, fiL U n r)
  | 0, _, h => by omega
  | m + 1, hm, h => by
    simp only [ffN]
    by_cases c : n - m = r
    · rw [c, if_pos hs]
    · rw [if_neg (hl _ (by omega))]
      exact ffN_eq h1 hr hs hl m (by omega) (by omega)
theorem ff_fw {U : Nat → Bool} {n : Nat} {F lb : Nat → Nat} (hm : monU n U) (hn1 : 1 ≤ n) (hn : n ≤ 12) (h1 : ∀ x, x < n → U (2 ^ x) = false) (h0 : U 0 = false) (h : fwOK U n F lb) : ffN U n n = (F (2 ^ n - 1), fiL U n (F (2 ^ n - 1))) ∧ (fiL U n (F (2 ^ n - 1))).isSome = true ∧ F (2 ^ n - 1) ≤ n := by
  have hp := Nat.two_pow_pos n
  obtain ⟨a1, a2⟩ := fw_col hm hn h1 h0 h (2 ^ n - 1) (2 ^ n - 1) (Nat.le_refl _) (by omega)
  have hs := (fi_col hm h0).mpr a2
  have hle : F (2 ^ n - 1) ≤ n := a1 n ⟨fun i => i, fun i hi _ => hi, fun q hq => by
    refine hm _ (2 ^ q) (Nat.pow_lt_pow_right (by decide) hq) (fun x hx => ?_) (h1 q hq)
    rw [mkB_bit] at hx
    simp at hx
    rw [hx.2, Nat.testBit_two_pow_self]⟩
  have hge : 1 ≤ F (2 ^ n - 1) := by
    obtain ⟨f, f1, _⟩ := a2
    have := f1 0 hn1 (all_bit hn1)
    omega
  exact ⟨ffN_eq hge hle hs (fun q hq hc => by
    have := a1 q ((fi_col hm h0).mp hc)
    omega) n (Nat.le_refl n) (by omega), hs, hle⟩
