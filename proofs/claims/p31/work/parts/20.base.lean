/-! what the methods do: words -/
noncomputable def cIf {α : Type} (p : Prop) (a b : α) : α := @ite α p (Classical.propDecidable p) a b
theorem cIf_t {α : Type} {p : Prop} {a b : α} (h : p) : cIf p a b = a := by unfold cIf; exact if_pos h
theorem cIf_f {α : Type} {p : Prop} {a b : α} (h : ¬ p) : cIf p a b = b := by unfold cIf; exact if_neg h
/-- an int that is one of the first n numbers -/
def inB (x : Int32) (n : Nat) : Prop := ∃ i, i < n ∧ x = nI i
theorem inB_lt0 {x : Int32} {n : Nat} (hn : n < 2147483648) (h : x < 0) : ¬ inB x n := fun ⟨i, h1, h2⟩ => by
  rw [h2] at h
  exact absurd h (nI_pos (by omega))
theorem inB_ge {x : Int32} {n : Nat} (hn : n < 2147483648) (h : nI n ≤ x) : ¬ inB x n := fun ⟨i, h1, h2⟩ => by
  rw [h2, nI_leI hn (by omega)] at h
  omega
theorem inB_of {x : Int32} {n : Nat} (hn : n < 2147483648) (h1 : ¬ x < 0) (h2 : ¬ nI n ≤ x) : ∃ i, i < n ∧ x = nI i := by
  rcases pk_ix x hn with h | h | h
  · exact absurd h h1
  · exact absurd h h2
  · exact h
theorem inB_nI {i n : Nat} (h : i < n) : inB (nI i) n := ⟨i, h, rfl⟩
theorem inB_iff {i n : Nat} (hi : i < 2147483648) (hn : n < 2147483648) : inB (nI i) n ↔ i < n := ⟨fun ⟨j, h1, h2⟩ => by rw [nI_eq hi (by omega)] at h2; omega, inB_nI⟩
/-- nothing but S has changed -/
def Fr (w w' : sW) (S : Nat → Prop) : Prop := w'.2 = w.2 ∧ ∀ q, ¬ S q → w'.1 q = w.1 q
theorem Fr.rf {w : sW} {S : Nat → Prop} : Fr w w S := ⟨rfl, fun _ _ => rfl⟩
theorem Fr.up {w w' : sW} {S : Nat → Prop} {a : Nat} {e : va_E} (h : Fr w w' S) (ha : S a) : Fr w (s_up w' a e) S := ⟨h.1, fun q hq => by rw [s_upN (fun z => hq (by rw [z]; exact ha))]; exact h.2 q hq⟩
theorem Fr.tr {w w' w'' : sW} {S T : Nat → Prop} (h : Fr w w' S) (h2 : Fr w' w'' T) (hs : ∀ q, T q → S q) : Fr w w'' S := ⟨h2.1.trans h.1, fun q hq => by rw [h2.2 q (fun z => hq (hs q z))]; exact h.2 q hq⟩
theorem Fr.mono {w w' : sW} {S T : Nat → Prop} (h : Fr w w' S) (hs : ∀ q, S q → T q) : Fr w w' T := ⟨h.1, fun q hq => h.2 q (fun z => hq (hs q z))⟩
/-- a grid: an object, its entries, how many rows and columns it has -/
def gAt (G : sG) (w : sW) (g e R C : Nat) (a : Nat → Nat) : Prop := w.1 g = ob 1 [.ref e, .int (nI R), .int (nI C)] ∧ w.1 e = aN G 12 a
theorem gAt.ne {G : sG} {w : sW} {g e R C : Nat} {a : Nat → Nat} (h : gAt G w g e R C a) : e ≠ g := fun z => by
  obtain ⟨h1, h2⟩ := h
  rw [z, h1] at h2
  cases h2
theorem gAt.fr {G : sG} {w w' : sW} {S : Nat → Prop} {g e R C : Nat} {a : Nat → Nat} (h : gAt G w g e R C a) (hF : Fr w w' S) (hg : ¬ S g) (he : ¬ S e) : gAt G w' g e R C a := ⟨by rw [hF.2 g hg]; exact h.1, by rw [hF.2 e he]; exact h.2⟩
/-- an array's form: 1 to 4 rows and columns, at most 12 entries -/
def okD (R C : Nat) : Prop := 1 ≤ R ∧ R ≤ 4 ∧ 1 ≤ C ∧ C ≤ 4 ∧ R * C ≤ 12
theorem okD.in {R C r c : Nat} (h : okD R C) (hr : r < R) (hc : c < C) : r * C + c < R * C := by
  have h1 : (r + 1) * C ≤ R * C := Nat.mul_le_mul_right C hr
  rw [Nat.add_mul] at h1
  omega
theorem okD.in12 {R C r c : Nat} (h : okD R C) (hr : r < R) (hc : c < C) : r * C + c < 12 := Nat.lt_of_lt_of_le (h.in hr hc) h.2.2.2.2
def mxF (a : Nat → Nat) : Nat → Nat
  | 0 => 0
  | n + 1 => max (mxF a n) (a n)
def mnF (a : Nat → Nat) : Nat → Nat
  | 0 => 999
  | n + 1 => min (mnF a n) (a n)
theorem mxF_le {a : Nat → Nat} {B : Nat} : ∀ {n : Nat}, (∀ k, k < n → a k ≤ B) → mxF a n ≤ B
  | 0, _ => Nat.zero_le _
  | n + 1, h => Nat.max_le.mpr ⟨mxF_le (fun k hk => h k (by omega)), h n (by omega)⟩
theorem le_mxF {a : Nat → Nat} {k : Nat} : ∀ {n : Nat}, k < n → a k ≤ mxF a n
  | 0, h => absurd h (Nat.not_lt_zero k)
  | n + 1, h => by
    by_cases hk : k = n
    · rw [hk]; exact Nat.le_max_right _ _
    · exact Nat.le_trans (le_mxF (n := n) (by omega)) (Nat.le_max_left _ _)
