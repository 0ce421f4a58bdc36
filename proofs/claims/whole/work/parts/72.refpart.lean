/-! the reference: permanents, parts -/
theorem nI_le6 {x : Nat} (h : x < 100000) : ¬ nI x ≤ -6 := by
  rw [nI_Z, show (-6 : Int32) = iZ (-6) by decide, iZ_le ⟨by omega, by omega⟩ ⟨by decide, by decide⟩]
  omega
theorem smN_le {C : Nat} {a : Nat → Nat} {r c n code : Nat} (h : ∀ k, k < n → a (plA C r c n code k) ≤ 999) : ∀ k, k ≤ n → smN C a r c n code k ≤ 999 * k
  | 0, _ => Nat.le_refl 0
  | k + 1, hk => by
    have := smN_le h k (by omega)
    have := h k (by omega)
    simp only [smN]
    omega
theorem hdN_lt {n code : Nat} (hn : 0 < n) : ∀ k, hdN n code k < 2 ^ n
  | 0 => Nat.two_pow_pos n
  | k + 1 => by
    simp only [hdN]
    refine Nat.or_lt_two_pow (hdN_lt hn k) ?_
    rw [Nat.one_shiftLeft]
    exact Nat.pow_lt_pow_right (by decide) (Nat.mod_lt _ hn)
def bdW (p : W3) (j : Nat) : Prop := (∀ y, p.1 = some y → y ≤ 3000) ∧ p.2.1 ≤ j ∧ ∀ y, p.2.2 = some y → y ≤ 3000
theorem bdW_st {p : W3} {j x : Nat} (h : bdW p j) (hx : x ≤ 3000) : bdW (stW p x) (j + 1) := by
  obtain ⟨p1, p2, p3⟩ := p
  obtain ⟨h1, h2, h3⟩ := h
  have h2 : p2 ≤ j := h2
  refine ⟨fun y hy => ?_, ?_, fun y hy => ?_⟩
  · cases p1 with
    | none =>
      have hy : some x = some y := hy
      cases hy
      exact hx
    | some z =>
      have hy : some (min z x) = some y := hy
      cases hy
      omega
  · cases p1 with
    | none => show 1 ≤ j + 1; omega
    | some z =>
      show (if x < z then 1 else if x = z then p2 + 1 else p2) ≤ j + 1
      split
      · omega
      · split <;> omega
  · cases p3 with
    | none =>
      have hy : some x = some y := hy
      cases hy
      exact hx
    | some z =>
      have hz := h3 z rfl
      have hy : some (max z x) = some y := hy
      cases hy
      omega
theorem bcN_pos : ∀ r, r < 16 → (r = 0 ↔ bcN r = 0) := by decide +kernel
section REFX
variable {G : sG} {d D : Nat} {P : sQ} {w : sW} {v : M7} {st : Nat → Nat} {s : xS} {κ : Nat × Nat} {r1 r2 : Nat} {r3 r4 : Int32}
theorem m_member {m p : Nat} (hm : m < 4096) (hp : p < 100) (k : P (some (.int (nI (memN m p)))) w) : wpM G (d + 1) yX10_member (0, 0) [.int (nI m), .int (nI p)] w P := by
  refine eX10_member ?_
  refine qX10_member_0 ?_
  refine qX10_member_1 ?_
  refine qX10_member_2 ?_
  refine qX10_member_3 ?_
  refine qX10_member_4 ?_
  refine qX10_member_5 ?_
  have L : ∀ n i, i + n = 4 → wp G d mX10_member P 7 [some (.int (nI m)), some (.int (nI p)), some (.int (nI (memF m p i).1)), some (.int (nI (memF m p i).2)), some (.int (nI i))] [] w (0, 0) := by
    intro n
    induction n with
    | zero =>
      intro i hi
      have hi4 : i = 4 := by omega
      subst hi4
      refine qX10_member_7 ?_
      refine qX10_member_9 ?_
      refine nX10_member_10 (by omega) (by omega) (fun h10 => ?_) (fun h10 => by exfalso; omega)
      refine qX10_member_50 ?_
      refine qX10_member_51 ?_
      exact k
    | succ n ih =>
      intro i hi
      have hst := ih (i + 1) (by omega)
      obtain ⟨b1, b2⟩ := memF_le m p i
      have hle : m >>> i &&& 1 ≤ 1 := Nat.and_le_right
      simp only [memF] at hst
      refine qX10_member_7 ?_
      refine qX10_member_9 ?_
      refine nX10_member_10 (by omega) (by omega) (fun h10 => by exfalso; omega) (fun h10 => ?_)
      refine qX10_member_13 ?_
      refine qX10_member_14 ?_
      refine nX10_member_16 (by omega) (by omega) ?_
      refine qX10_member_17 ?_
      first | refine nX10_member_18 ?_ | refine qX10_member_18 ?_
      refine qX10_member_19 ?_
      refine nX10_member_20 (by omega) (by omega) (fun h20 => ?_) (fun h20 => ?_)
      · rw [shr_1] at h20
        rw [if_neg (fun z => h20 z.1)] at hst
        refine qX10_member_33 ?_
        refine qX10_member_34 ?_
        refine qX10_member_35 ?_
        refine qX10_member_36 ?_
        refine qX10_member_37 ?_
        refine nX10_member_39 (by omega) (by omega) ?_
        refine qX10_member_40 ?_
        first | refine nX10_member_41 ?_ | refine qX10_member_41 ?_
        first | refine nX10_member_42 ?_ | refine qX10_member_42 ?_
        refine qX10_member_43 ?_
        first | refine nX10_member_44 ?_ | refine qX10_member_44 ?_
        refine qX10_member_47 ?_
        exact hst
      · rw [shr_1] at h20
        refine qX10_member_23 ?_
        refine qX10_member_24 ?_
        refine nX10_member_25 (by omega) (by omega) (fun h25 => ?_) (fun h25 => ?_)
        · rw [if_neg (fun z => h25 z.2)] at hst
          refine qX10_member_33 ?_
          refine qX10_member_34 ?_
          refine qX10_member_35 ?_
          refine qX10_member_36 ?_
          refine qX10_member_37 ?_
          refine nX10_member_39 (by omega) (by omega) ?_
          refine qX10_member_40 ?_
          first | refine nX10_member_41 ?_ | refine qX10_member_41 ?_
          first | refine nX10_member_42 ?_ | refine qX10_member_42 ?_
          refine qX10_member_43 ?_
          first | refine nX10_member_44 ?_ | refine qX10_member_44 ?_
          refine qX10_member_47 ?_
          exact hst
        · rw [if_pos ⟨h20, h25⟩] at hst
          refine qX10_member_28 ?_
          refine qX10_member_30 ?_
          refine qX10_member_34 ?_
          refine qX10_member_35 ?_
          refine qX10_member_36 ?_
          refine qX10_member_37 ?_
          refine nX10_member_39 (by omega) (by omega) ?_
          refine qX10_member_40 ?_
          first | refine nX10_member_41 ?_ | refine qX10_member_41 ?_
          first | refine nX10_member_42 ?_ | refine qX10_member_42 ?_
          refine qX10_member_43 ?_
          first | refine nX10_member_44 ?_ | refine qX10_member_44 ?_
          refine qX10_member_47 ?_
          exact hst
  exact L 4 0 rfl
theorem fwA {p1 : Option Nat} {pw x : Nat} {gs : Int32} {l1 l2 l3 l4 l5 l6 l7 l8 l10 : Option Value} (hx : x ≤ 3000) (hb1 : ∀ y, p1 = some y → y ≤ 3000) (hb2 : pw ≤ 300) (h : mO w D (r1, r2, r3, r4, oS p1, nI pw, gs)) (k : ∀ w', Fr w w' (fun q => q = D) → mO w' D (r1, r2, r3, r4, oS p1, nI (wA p1 pw x), gs) → wp G d mX10_findWays P 214 [some (.ref D), l1, l2, l3, l4, l5, l6, l7, l8, some (.int (nI x)), l10] [] w' κ) : wp G d mX10_findWays P 166 [some (.ref D), l1, l2, l3, l4, l5, l6, l7, l8, some (.int (nI x)), l10] [] w κ := by
  have fin : ∀ u, u = wA p1 pw x → wp G d mX10_findWays P 211 [some (.ref D), l1, l2, l3, l4, l5, l6, l7, l8, some (.int (nI x)), l10] [.int (nI u), .ref D] w κ := by
    intro u hu
    refine qX10_findWays_211 h ?_
    exact k _ (Fr.rf.up rfl) (by rw [← hu]; exact s_upS)
  refine qX10_findWays_166 ?_
  refine qX10_findWays_167 ?_
  refine qX10_findWays_168 (by assumption) ?_
  refine qX10_findWays_171 ?_
  cases p1 with
  | none =>
    refine qX10_findWays_173 (fun _ => ?_) (fun z => absurd rfl z)
    refine qX10_findWays_185 ?_
    refine qX10_findWays_186 ?_
    exact fin 1 rfl
  | some y =>
    have hy := hb1 y rfl
    refine qX10_findWays_173 (fun z => absurd z (nI_m6 (by omega))) (fun _ => ?_)
    refine qX10_findWays_176 ?_
    refine qX10_findWays_178 ?_
    refine qX10_findWays_179 (by assumption) ?_
    show wp G d mX10_findWays P 182 _ (.int (nI y) :: .int (nI x) :: _) w κ
    refine nX10_findWays_182 (by omega) (by omega) (fun h182 => ?_) (fun h182 => ?_)
    · refine qX10_findWays_189 ?_
      refine qX10_findWays_191 ?_
      refine qX10_findWays_192 (by assumption) ?_
      show wp G d mX10_findWays P 195 _ (.int (nI y) :: .int (nI x) :: _) w κ
      refine nX10_findWays_195 (by omega) (by omega) (fun h195 => ?_) (fun h195 => ?_)
      · refine qX10_findWays_207 ?_
        refine qX10_findWays_208 (by assumption) ?_
        refine fin pw ?_
        show pw = if x < y then 1 else if x = y then pw + 1 else pw
        rw [if_neg (by omega), if_neg h195]
      · refine qX10_findWays_198 ?_
        refine qX10_findWays_199 (by assumption) ?_
        show wp G d mX10_findWays P 202 _ (.int (nI pw) :: _) w κ
        refine qX10_findWays_202 ?_
        first | refine nX10_findWays_203 ?_ | refine qX10_findWays_203 ?_
        refine qX10_findWays_204 ?_
        refine fin (pw + 1) ?_
        show pw + 1 = if x < y then 1 else if x = y then pw + 1 else pw
        rw [if_neg (by omega), if_pos h195]
    · refine qX10_findWays_185 ?_
      refine qX10_findWays_186 ?_
      refine fin 1 ?_
      show 1 = if x < y then 1 else if x = y then pw + 1 else pw
      rw [if_pos h182]
theorem fwB2 {p1 : Option Nat} {x : Nat} {pw gs : Int32} {l1 l2 l3 l4 l5 l6 l7 l8 l10 : Option Value} (hx : x ≤ 3000) (hb1 : ∀ y, p1 = some y → y ≤ 3000) (h : mO w D (r1, r2, r3, r4, oS p1, pw, gs)) (k : ∀ w', Fr w w' (fun q => q = D) → mO w' D (r1, r2, r3, r4, oS (wB p1 x), pw, gs) → wp G d mX10_findWays P 245 [some (.ref D), l1, l2, l3, l4, l5, l6, l7, l8, some (.int (nI x)), l10] [] w' κ) : wp G d mX10_findWays P 214 [some (.ref D), l1, l2, l3, l4, l5, l6, l7, l8, some (.int (nI x)), l10] [] w κ := by
  have fin : ∀ u, some u = wB p1 x → wp G d mX10_findWays P 242 [some (.ref D), l1, l2, l3, l4, l5, l6, l7, l8, some (.int (nI x)), l10] [.int (nI u), .ref D] w κ := by
    intro u hu
    refine qX10_findWays_242 h ?_
    exact k _ (Fr.rf.up rfl) (by rw [← hu]; exact s_upS)
  refine qX10_findWays_214 ?_
  refine qX10_findWays_215 ?_
  refine qX10_findWays_216 (by assumption) ?_
  refine qX10_findWays_219 ?_
  cases p1 with
  | none =>
    refine qX10_findWays_221 (fun _ => ?_) (fun z => absurd rfl z)
    refine qX10_findWays_233 ?_
    refine qX10_findWays_235 ?_
    exact fin x rfl
  | some y =>
    have hy := hb1 y rfl
    refine qX10_findWays_221 (fun z => absurd z (nI_m6 (by omega))) (fun _ => ?_)
    refine qX10_findWays_224 ?_
    refine qX10_findWays_226 ?_
    refine qX10_findWays_227 (by assumption) ?_
    show wp G d mX10_findWays P 230 _ (.int (nI y) :: .int (nI x) :: _) w κ
    refine nX10_findWays_230 (by omega) (by omega) (fun h230 => ?_) (fun h230 => ?_)
    · refine qX10_findWays_238 ?_
      refine qX10_findWays_239 (by assumption) ?_
      refine fin y ?_
      show some y = some (min y x)
      rw [Nat.min_eq_left h230]
    · refine qX10_findWays_233 ?_
      refine qX10_findWays_235 ?_
      refine fin x ?_
      show some x = some (min y x)
      rw [Nat.min_eq_right (Nat.le_of_lt h230)]
theorem fwC {p3 : Option Nat} {x : Nat} {ps pw : Int32} {l1 l2 l3 l4 l5 l6 l7 l8 l10 : Option Value} (hx : x ≤ 3000) (hb1 : ∀ y, p3 = some y → y ≤ 3000) (h : mO w D (r1, r2, r3, r4, ps, pw, oS p3)) (k : ∀ w', Fr w w' (fun q => q = D) → mO w' D (r1, r2, r3, r4, ps, pw, oS (wC p3 x)) → wp G d mX10_findWays P 267 [some (.ref D), l1, l2, l3, l4, l5, l6, l7, l8, some (.int (nI x)), l10] [] w' κ) : wp G d mX10_findWays P 245 [some (.ref D), l1, l2, l3, l4, l5, l6, l7, l8, some (.int (nI x)), l10] [] w κ := by
  have fin : ∀ u, some u = wC p3 x → wp G d mX10_findWays P 264 [some (.ref D), l1, l2, l3, l4, l5, l6, l7, l8, some (.int (nI x)), l10] [.int (nI u), .ref D] w κ := by
    intro u hu
    refine qX10_findWays_264 h ?_
    exact k _ (Fr.rf.up rfl) (by rw [← hu]; exact s_upS)
  refine qX10_findWays_245 ?_
  refine qX10_findWays_246 ?_
  refine qX10_findWays_248 ?_
  refine qX10_findWays_249 (by assumption) ?_
  cases p3 with
  | none =>
    refine qX10_findWays_252 (fun z => absurd z (nI_le6 (by omega))) (fun _ => ?_)
    refine qX10_findWays_255 ?_
    refine qX10_findWays_257 ?_
    exact fin x rfl
  | some y =>
    have hy := hb1 y rfl
    show wp G d mX10_findWays P 252 _ (.int (nI y) :: .int (nI x) :: _) w κ
    refine nX10_findWays_252 (by omega) (by omega) (fun h252 => ?_) (fun h252 => ?_)
    · refine qX10_findWays_260 ?_
      refine qX10_findWays_261 (by assumption) ?_
      refine fin y ?_
      show some y = some (max y x)
      rw [Nat.max_eq_left h252]
    · refine qX10_findWays_255 ?_
      refine qX10_findWays_257 ?_
      refine fin x ?_
      show some x = some (max y x)
      rw [Nat.max_eq_right (Nat.le_of_lt h252)]
set_option maxHeartbeats 1000000 in
theorem m_findWays {i r c : Nat} (h : mO w D v) (hs : w.1 (D + 1) = aN G 42 st) (hwy : ∃ f, w.1 (D + 8) = aN G 4 f) (hi : i < 3) (ho : okV (vwA st i)) (hr1 : 1 ≤ r) (hr : r < 2 ^ rR st i) (hc : c < 2 ^ rC st i) (hb : bcN r = bcN c) (k : ∀ w', Fr w w' (fun q => q = D ∨ q = D + 8) → mO w' D (v.1, v.2.1, v.2.2.1, v.2.2.2.1, nI (lsN (wysL (rR st i) (rC st i) (rE st i) r c)), nI (wlN (wysL (rR st i) (rC st i) (rE st i) r c)), nI (gsN (wysL (rR st i) (rC st i) (rE st i) r c))) → (∃ f, w'.1 (D + 8) = aN G 4 f) → P none w') : wpM G (d + 3) yX10_findWays (0, 0) [.ref D, .int (nI i), .int (nI r), .int (nI c)] w P := by
  have hd : okD (rR st i) (rC st i) := ho.1
  have ha : ∀ q, q < rR st i * rC st i → rE st i q ≤ 999 := ho.2
  obtain ⟨hn1, hn3, _, hmem⟩ := pt_ok hd hr hc hr1 hb
  have hfin := wfS_eq (a := rE st i) hd hr hc hr1 hb
  have pR : 2 ^ rR st i ≤ 16 := Nat.pow_le_pow_right (n := 2) (by decide) (show rR st i ≤ 4 from hd.2.1)
  have pC : 2 ^ rC st i ≤ 16 := Nat.pow_le_pow_right (n := 2) (by decide) (show rC st i ≤ 4 from hd.2.2.2.1)
  obtain ⟨r1, r2, r3, r4, r5, r6, r7⟩ := v
  obtain ⟨f0, hwy⟩ := hwy
  refine eX10_findWays ?_
  refine qX10_findWays_0 ?_
  refine qX10_findWays_1 (Nat.le_of_ble_eq_true rfl) (m_bits (by omega) ?_)
  generalize hn : bcN r = n at *
  have hpl : ∀ code q, q < n → memN r q * rC st i + memN c (rsN n code q % n) < rR st i * rC st i := fun code q hq => hd.in (hmem q (by omega)).1 (hmem _ (by have := Nat.mod_lt (rsN n code q) (show n > 0 by omega); omega)).2
  have hsz : rR st i * rC st i ≤ 12 := hd.2.2.2.2
  have hpw : 1 * 2 ^ n ≤ 8 ∧ 1 ≤ 1 <<< n ∧ 2 ^ n ≤ 8 ∧ n ^ n ≤ 27 := by
    rcases (show n = 1 ∨ n = 2 ∨ n = 3 by omega) with rfl | rfl | rfl <;> decide
  obtain ⟨hp1, hp2, hp3, hp4⟩ := hpw
  have main : wp G (d + 2) mX10_findWays P 40 [some (.ref D), some (.int (nI i)), some (.int (nI r)), some (.int (nI c)), some (.int (nI n)), none, none, none, none, none, none] [.int (nI (n ^ n))] w (0, 0) := by
    refine qX10_findWays_40 ?_
    refine qX10_findWays_42 ?_
    refine qX10_findWays_43 ?_
    refine qX10_findWays_45 (by assumption) ?_
    generalize hw1 : s_up w D _ = w1
    have hF1 : Fr w w1 (fun q => q = D) := by rw [← hw1]; exact Fr.rf.up rfl
    have m1 : mO w1 D (r1, r2, r3, r4, -6, r6, r7) := by rw [← hw1]; exact s_upS
    refine qX10_findWays_48 ?_
    refine qX10_findWays_49 ?_
    refine qX10_findWays_50 (by assumption) ?_
    generalize hw2 : s_up w1 D _ = w2
    have hF2 : Fr w w2 (fun q => q = D) := by rw [← hw2]; exact hF1.up rfl
    have m2 : mO w2 D (r1, r2, r3, r4, -6, nI 0, r7) := by rw [← hw2]; exact s_upS
    refine qX10_findWays_53 ?_
    refine qX10_findWays_54 ?_
    refine qX10_findWays_56 (by assumption) ?_
    generalize hw3 : s_up w2 D _ = w3
    have hF3 : Fr w w3 (fun q => q = D) := by rw [← hw3]; exact hF2.up rfl
    have m3 : mO w3 D (r1, r2, r3, r4, oS none, nI 0, oS none) := by rw [← hw3]; exact s_upS
    refine qX10_findWays_59 ?_
    refine qX10_findWays_60 ?_
    have L : ∀ m j (w' : sW) (l7 l8 l9 l10 : Option Value), j + m = n ^ n → Fr w w' (fun q => q = D ∨ q = D + 8) → mO w' D (r1, r2, r3, r4, oS (wfS (rC st i) (rE st i) r c n j).1, nI (wfS (rC st i) (rE st i) r c n j).2.1, oS (wfS (rC st i) (rE st i) r c n j).2.2) → bdW (wfS (rC st i) (rE st i) r c n j) j → (∃ f, w'.1 (D + 8) = aN G 4 f) → wp G (d + 2) mX10_findWays P 62 [some (.ref D), some (.int (nI i)), some (.int (nI r)), some (.int (nI c)), some (.int (nI n)), some (.int (nI (n ^ n))), some (.int (nI j)), l7, l8, l9, l10] [] w' (0, 0) := by
      intro m
      induction m with
      | zero =>
        intro j w' l7 l8 l9 l10 hj hF m1 hbd hwy
        refine qX10_findWays_62 ?_
        refine qX10_findWays_64 ?_
        refine nX10_findWays_66 (by omega) (by omega) (fun h66 => ?_) (fun h66 => by exfalso; omega)
        refine qX10_findWays_273 ?_
        rw [show j = n ^ n by omega, hfin] at m1
        exact k w' hF m1 hwy
      | succ m ih =>
        intro j w' l7 l8 l9 l10 hj hF m1 hbd hwy
        obtain ⟨f1, hwy⟩ := hwy
        refine qX10_findWays_62 ?_
        refine qX10_findWays_64 ?_
        refine nX10_findWays_66 (by omega) (by omega) (fun h66 => by exfalso; omega) (fun h66 => ?_)
        refine qX10_findWays_69 ?_
        refine qX10_findWays_71 ?_
        refine qX10_findWays_73 ?_
        refine qX10_findWays_74 ?_
        refine qX10_findWays_76 ?_
        refine qX10_findWays_77 ?_
        refine qX10_findWays_79 ?_
        refine qX10_findWays_80 ?_
        have hsm := smN_le (fun q hq => ha _ (hpl j q hq) : ∀ q, q < n → rE st i (plA (rC st i) r c n j q) ≤ 999)
        have L2 : ∀ p q (w' : sW) (f1 : Nat → Nat), q + p = n → Fr w w' (fun q => q = D ∨ q = D + 8) → mO w' D (r1, r2, r3, r4, oS (wfS (rC st i) (rE st i) r c n j).1, nI (wfS (rC st i) (rE st i) r c n j).2.1, oS (wfS (rC st i) (rE st i) r c n j).2.2) → w'.1 (D + 8) = aN G 4 f1 → rsN n j q ≤ j → wp G (d + 2) mX10_findWays P 82 [some (.ref D), some (.int (nI i)), some (.int (nI r)), some (.int (nI c)), some (.int (nI n)), some (.int (nI (n ^ n))), some (.int (nI j)), some (.int (nI (rsN n j q))), some (.int (nI (hdN n j q))), some (.int (nI (smN (rC st i) (rE st i) r c n j q))), some (.int (nI q))] [] w' (0, 0) := by
          intro p
          induction p with
          | zero =>
            intro q w' f1 hq hF m1 hwy hrs
            have hqn : q = n := by omega
            subst hqn
            have hh := hdN_lt (n := q) (code := j) (by omega) q
            have hs3 := hsm q (Nat.le_refl _)
            have hst : ∀ w'' (l7 l8 l9 l10 : Option Value), Fr w' w'' (fun q => q = D) → mO w'' D (r1, r2, r3, r4, oS (wfS (rC st i) (rE st i) r c q (j + 1)).1, nI (wfS (rC st i) (rE st i) r c q (j + 1)).2.1, oS (wfS (rC st i) (rE st i) r c q (j + 1)).2.2) → bdW (wfS (rC st i) (rE st i) r c q (j + 1)) (j + 1) → wp G (d + 2) mX10_findWays P 267 [some (.ref D), some (.int (nI i)), some (.int (nI r)), some (.int (nI c)), some (.int (nI q)), some (.int (nI (q ^ q))), some (.int (nI j)), l7, l8, l9, l10] [] w'' (0, 0) := by
              intro w'' l7 l8 l9 l10 hF2 m2 hb2
              first | refine nX10_findWays_267 ?_ | refine qX10_findWays_267 ?_
              refine qX10_findWays_270 ?_
              exact ih (j + 1) w'' _ _ _ _ (by omega) (hF.tr hF2 (fun q hq => Or.inl hq)) m2 hb2 ⟨f1, by rw [hF2.2 _ (by omega)]; exact hwy⟩
            simp only [wfS] at hst
            refine qX10_findWays_82 ?_
            refine qX10_findWays_84 ?_
            refine nX10_findWays_86 (by omega) (by omega) (fun h86 => ?_) (fun h86 => by exfalso; omega)
            refine qX10_findWays_155 ?_
            refine qX10_findWays_157 ?_
            refine qX10_findWays_158 ?_
            refine nX10_findWays_160 (by omega) (by omega) ?_
            refine qX10_findWays_161 ?_
            first | refine nX10_findWays_162 (by omega) ?_ | refine qX10_findWays_162 ?_
            refine nX10_findWays_163 (by omega) (by omega) (fun h163 => ?_) (fun h163 => ?_)
            · rw [if_neg h163] at hst
              refine hst w' _ _ _ _ Fr.rf m1 ⟨hbd.1, Nat.le_succ_of_le hbd.2.1, hbd.2.2⟩
            · rw [if_pos h163] at hst
              refine fwA (by omega) hbd.1 (by have := hbd.2.1; omega) m1 (fun wa hFa ma => ?_)
              refine fwB2 (by omega) hbd.1 ma (fun wb hFb mb => ?_)
              refine fwC (by omega) hbd.2.2 mb (fun wc hFc mc => ?_)
              exact hst wc _ _ _ _ ((hFa.tr hFb (fun q hq => hq)).tr hFc (fun q hq => hq)) mc (bdW_st hbd (by omega))
          | succ p ih2 =>
            intro q w' f1 hq hF m1 hwy hrs
            have hmd : rsN n j q % n < n := Nat.mod_lt _ (by omega)
            have hh := hdN_lt (n := n) (code := j) (by omega) q
            have q1 : w'.1 (D + 1) = aN G 42 st := by rw [hF.2 _ (by omega)]; exact hs
            have hp2' : 1 * 2 ^ (rsN n j q % n) ≤ 8 := by
              have : 2 ^ (rsN n j q % n) ≤ 2 ^ n := Nat.pow_le_pow_right (by decide) (by omega)
              omega
            have hin : memN r q * rC st i + memN c (rsN n j q % n) < 12 := Nat.lt_of_lt_of_le (hpl j q (by omega)) hsz
            have hdv : rsN n j q / n ≤ j := Nat.le_trans (Nat.div_le_self _ _) hrs
            refine qX10_findWays_82 ?_
            refine qX10_findWays_84 ?_
            refine nX10_findWays_86 (by omega) (by omega) (fun h86 => by exfalso; omega) (fun h86 => ?_)
            refine qX10_findWays_89 ?_
            refine qX10_findWays_90 (by assumption) ?_
            refine qX10_findWays_93 ?_
            refine qX10_findWays_95 ?_
            refine qX10_findWays_97 ?_
            refine nX10_findWays_99 (by omega) (by omega) (by omega) ?_
            refine fX10_findWays_100 hwy (by omega) (by decide) ?_
            generalize hw4 : s_up w' (D + 8) _ = w4
            have hF4 : Fr w' w4 (fun q => q = D + 8) := by rw [← hw4]; exact Fr.rf.up rfl
            have m4 : mO w4 D _ := (hF4.2 D (by omega)).trans m1
            have q4 : w4.1 (D + 8) = aN G 4 (updN f1 q (rsN n j q % n)) := by rw [← hw4]; exact s_upS
            have q5 : w4.1 (D + 1) = aN G 42 st := by rw [hF4.2 _ (by omega)]; exact q1
            refine qX10_findWays_101 ?_
            refine qX10_findWays_103 ?_
            refine nX10_findWays_105 (by omega) (by omega) (by omega) ?_
            refine qX10_findWays_106 ?_
            refine qX10_findWays_108 ?_
            refine qX10_findWays_110 ?_
            refine qX10_findWays_111 ?_
            refine qX10_findWays_112 (by assumption) ?_
            refine qX10_findWays_115 ?_
            refine fX10_findWays_117 q4 (by omega) (by decide) ?_
            rw [updN_s]
            refine nX10_findWays_118 (by omega) (by omega) ?_
            first | refine nX10_findWays_119 ?_ | refine qX10_findWays_119 ?_
            refine qX10_findWays_120 ?_
            refine qX10_findWays_122 ?_
            refine qX10_findWays_124 ?_
            refine qX10_findWays_125 ?_
            refine qX10_findWays_126 ?_
            refine qX10_findWays_127 ?_
            refine qX10_findWays_129 (Nat.le_of_ble_eq_true rfl) (m_member (by omega) (by omega) ?_)
            refine qX10_findWays_132 ?_
            refine qX10_findWays_133 ?_
            refine qX10_findWays_134 (by assumption) ?_
            refine qX10_findWays_137 ?_
            refine fX10_findWays_139 q4 (by omega) (by decide) ?_
            rw [updN_s]
            refine qX10_findWays_140 (Nat.le_of_ble_eq_true rfl) (m_member (by omega) (by omega) ?_)
            refine qX10_findWays_143 (by assumption) (Nat.le_of_ble_eq_true rfl) (m_at m4 q5 hi hin ?_)
            first | refine nX10_findWays_146 ?_ | refine qX10_findWays_146 ?_
            refine qX10_findWays_147 ?_
            first | refine nX10_findWays_149 ?_ | refine qX10_findWays_149 ?_
            refine qX10_findWays_152 ?_
            exact ih2 (q + 1) w4 _ (by omega) (hF.tr hF4 (fun q hq => Or.inr hq)) m4 q4 hdv
        exact L2 n 0 w' f1 (by omega) hF m1 hwy (Nat.le_refl _)
    exact L (n ^ n) 0 w3 none none none none (by omega) (hF3.mono (fun q hq => Or.inl hq)) m3 ⟨fun y hy => absurd hy (by simp [wfS]), Nat.le_refl 0, fun y hy => absurd hy (by simp [wfS])⟩ ⟨f0, by rw [hF3.2 _ (by omega)]; exact hwy⟩
  refine qX10_findWays_4 ?_
  refine qX10_findWays_6 ?_
  refine qX10_findWays_8 ?_
  rcases (show n = 1 ∨ n = 2 ∨ n = 3 by omega) with rfl | rfl | rfl
  · refine nX10_findWays_9 (by omega) (by omega) (fun h9 => by exfalso; omega) (fun h9 => ?_)
    refine qX10_findWays_12 ?_
    refine qX10_findWays_13 ?_
    exact main
  · refine nX10_findWays_9 (by omega) (by omega) (fun h9 => ?_) (fun h9 => by exfalso; omega)
    refine qX10_findWays_16 ?_
    refine qX10_findWays_18 ?_
    refine nX10_findWays_19 (by omega) (by omega) (fun h19 => by exfalso; omega) (fun h19 => ?_)
    refine qX10_findWays_22 ?_
    refine qX10_findWays_23 ?_
    exact main
  · refine nX10_findWays_9 (by omega) (by omega) (fun h9 => ?_) (fun h9 => by exfalso; omega)
    refine qX10_findWays_16 ?_
    refine qX10_findWays_18 ?_
    refine nX10_findWays_19 (by omega) (by omega) (fun h19 => ?_) (fun h19 => by exfalso; omega)
    refine qX10_findWays_26 ?_
    refine qX10_findWays_28 ?_
    refine nX10_findWays_29 (by omega) (by omega) (fun h29 => by exfalso; omega) (fun h29 => ?_)
    refine qX10_findWays_32 ?_
    refine qX10_findWays_34 ?_
    exact main
end REFX
