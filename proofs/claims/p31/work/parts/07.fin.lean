section SFIN
variable {D : va_G} {G : sG}
theorem s_ent_sl (vs : List Value) : (s_ent vs).length = (lg_sl vs).length := by
  induction vs with
  | nil => rfl
  | cons v vs ih =>
    simp only [s_ent, lg_sl, List.flatMap_cons, List.length_append] at ih ⊢
    rw [ih]
    split <;> rfl
theorem s_ent_args (vs : List Value) : ∀ (k i : Nat) (v : Value), (s_ent vs)[i]? = some (some v) → (k + i, v) ∈ lv_args k vs := by
  induction vs with
  | nil => intro k i v h; simp [s_ent] at h
  | cons u vs ih =>
    intro k i v h
    have he : s_ent (u :: vs) = (if u.category = 2 then [some u, none] else [some u]) ++ s_ent vs := rfl
    rw [he] at h
    by_cases hu : u.category = 2
    · rw [if_pos hu] at h
      show (k + i, v) ∈ (k, u) :: lv_args (if u.category = 2 then k + 2 else k + 1) vs
      rw [if_pos hu]
      match i, h with
      | 0, h => simp at h; rw [h]; exact List.mem_cons_self
      | 1, h => simp at h
      | j + 2, h =>
        have h' : (s_ent vs)[j]? = some (some v) := by simpa using h
        have := ih (k + 2) j v h'
        rw [show k + (j + 2) = k + 2 + j by omega]
        exact List.mem_cons_of_mem _ this
    · rw [if_neg hu] at h
      show (k + i, v) ∈ (k, u) :: lv_args (if u.category = 2 then k + 2 else k + 1) vs
      rw [if_neg hu]
      match i, h with
      | 0, h => simp at h; rw [h]; exact List.mem_cons_self
      | j + 1, h =>
        have h' : (s_ent vs)[j]? = some (some v) := by simpa using h
        have := ih (k + 1) j v h'
        rw [show k + (j + 1) = k + 1 + j by omega]
        exact List.mem_cons_of_mem _ this
theorem s_loc_ent {vs : List Value} {n i : Nat} {v : Value} (h : (s_loc vs n)[i]? = some (some v)) : (s_ent vs)[i]? = some (some v) := by
  simp only [s_loc] at h
  rw [List.getElem?_append] at h
  split at h
  · exact h
  · rw [List.getElem?_replicate] at h
    split at h <;> cases h
set_option maxHeartbeats 4000000 in
theorem s_sound (l : Launch) : ∀ d, s_sd l D G d := by
  intro d
  induction d with
  | zero => intro y κ vs w P h; exact h.elim
  | succ d IH =>
    intro y κ vs w P h
    obtain ⟨cc, maxL, ret, lg, h1, h2, h3, h4, h5, h6, h7⟩ := h
    refine ⟨cc, maxL, ret, h1, h4, h6, Met.ofW (cc := cc) (maxL := maxL) (ret := ret) h2 rfl ?_⟩
    intro p e s m args below meth c s₁ B hml hv
    obtain ⟨rfl, hr, hK, hN, hFX⟩ := hv
    have hx := B.exec
    have hb := B.bytes
    have hret := B.returns
    have hts0 := atoms_spec (ws := s_ws y cc maxL ret) B.pre
    have hts : ∀ x ∈ s_gw, x.before vs.toArray s = true := fun x hx => hts0 x (List.mem_cons_of_mem _ hx)
    have hown : s.vm.findClass y.cls = some m.cls := findClass_of_methodNamed B.named
    have hlocks := B.notSynchronized
    have hmn : meth.name = y.name := (name_of_methodNamed B.named B.method).1
    have hl : lv_has ((lg_sl vs ++ List.replicate (maxL - (lg_sl vs).length) Slot.unset).toArray) maxL (lv_args 0 vs) := lv_entry vs (by rw [← s_ent_sl]; exact h3)
    rw [lg_entry_eq]
    have hQ : ∀ (v : Option Value) (w' : sW) (H : Heap) (locs : List Loc) (t : State), P v w' → s_rel D G w' H → va_S (s_A G) s.heap H locs → t.heap = H → s_Qc D G P vs.toArray s (.returned v) t := fun v w' H locs t hp hr' hS' ht => ⟨⟨v, w', rfl, hp, by rw [ht]; exact hr'⟩, by rw [ht]; exact hS'.1, fun q hq => by rw [ht]; exact hS'.2.1 q (Nat.lt_of_lt_of_le hq hFX.2.2.2.2.2) (Nat.not_le.mpr hq)⟩
    refine h7 (s_IW p l e (s_rm (d + 1) κ) s m vs.toArray below meth c (MQ below (s_Qc D G P) vs.toArray s κ.1 κ.2 (s_A G)) D G (y, cc, maxL, ret, lg)) (s_close (P := P) ⟨hx, hb, hml, hown, hts, hN, hK, fun q => hmn.trans q, hFX, Nat.le_refl _, by show 64 * d + 64 ≤ 64 * (d + 1); omega⟩ IH ?_ ?_) s.heap [] 0 0 _ hr va_S.rf ⟨?_, ?_, ?_⟩ (by show 0 + κ.1 ≤ κ.1; omega) (by show 0 + κ.2 ≤ κ.2; omega)
    · intro pc v ty w' H locs cells slots arr hd hty hn hp hr' hS' hc1 hc2
      refine W.widen (k := κ.1) (n := κ.2) hc1 hc2 ?_
      exact W.zret hx hb (by rw [hret]; exact hty) hn (fun t ht hW => hQ _ _ _ _ _ hp hr' hS' ht) hS'.2.2 hd
    · intro pc w' H locs cells slots arr hd hty hp hr' hS' hc1 hc2
      refine W.widen (k := κ.1) (n := κ.2) hc1 hc2 ?_
      exact W.vret hx hb (by rw [hret]; exact hty) (fun t ht hW => hQ _ _ _ _ _ hp hr' hS' ht) hS'.2.2 hd
    · show (s_loc vs maxL).length = maxL
      simp only [s_loc, List.length_append, List.length_replicate]
      omega
    · refine lv_mono hl ?_
      rintro ⟨i, v⟩ hq
      rw [s_lv_mem] at hq
      have := s_ent_args vs 0 i v (s_loc_ent hq)
      simpa using this
    · intro hlg i v hi
      refine h5 hlg v ?_
      have hm := List.mem_of_getElem? (s_loc_ent hi)
      simp only [s_ent, List.mem_flatMap] at hm
      obtain ⟨u, hu, hm⟩ := hm
      split at hm
      · simp at hm; rw [hm]; exact hu
      · simp at hm; rw [hm]; exact hu
end SFIN
