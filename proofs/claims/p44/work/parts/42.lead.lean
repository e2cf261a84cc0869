/-! a log closed; lead -/
theorem Mid.sh {T : Td} {g0 g : Gs} {σ1 τ0 σ τ : Wd} {c : Nat} {r : Nat → Int64} {f : Nat → Int32} (h : Mid T g0 σ1 τ0 g σ τ) (hc : c < tN T) (c5 : r 5 = lN (min 8 (gH g + 1))) (c36 : r 36 = lN c) (cs : ∀ k, 1 ≤ k → k < 8 → r (36 + k) = σ.2.1 29 (36 + (k - 1))) (co : ∀ j, j ≠ 5 → (j < 36 ∨ 44 ≤ j) → r j = σ.2.1 29 j) (m4 : f 4 = nI (min 8 (gH g + 1))) (m5 : f 5 = nI c) (ms : ∀ k, 1 ≤ k → k < 8 → f (5 + k) = τ.1 26 (5 + (k - 1))) (mo : ∀ j, (j < 4 ∨ 13 ≤ j) → f j = τ.1 26 j) : Mid T g0 σ1 τ0 (sG g c) (rL σ 29 r) (rI τ 26 f) := by
  obtain ⟨a, b, s, d, e, m, i, w, o⟩ := h
  have hH := i.1.2.2.2.1
  refine ⟨?_, KM.wI rfl (by decide) b, by rw [gI_rI, if_neg (by decide)]; exact s, by rw [rL_at]; exact CR_sh hH c5 c36 cs co d, ⟨fun w hw => e.1 w hw, fun i hi => e.2 i hi⟩, by rw [rI_at]; exact MR_sh hH m4 m5 ms mo m, ?_, w, o⟩
  · refine ⟨fun q hq hd => ⟨(a.1 q hq hd).1, ?_, (a.1 q hq hd).2.2⟩, a.2.1, a.2.2⟩
    have : q ≠ 29 := by omega
    show (if q = 29 then _ else σ.2.1 q) = _
    rw [if_neg this]
    exact (a.1 q hq hd).2.1
  · obtain ⟨i1, i2, i3, i4, i5, i6, i7, i8, i9, i10, i11, i12, i13, i14⟩ := i
    refine ⟨⟨i1.1, i1.2.1, i1.2.2.1, Nat.min_le_left _ _, i1.2.2.2.2⟩, fun k hk => ?_, i3, i4, i5, i6, i7, i8, i9, i10, i11, i12, i13, i14⟩
    have hk : k < min 8 (gH g + 1) := hk
    by_cases h0 : k = 0
    · subst h0
      exact hc
    · rw [show gh (sG g c) k = gh g (k - 1) from if_neg h0]
      exact i2 (k - 1) (by omega)
theorem uI_self {τ : Wd} {c k : Nat} : uI τ c k (gI τ c k) = τ := by
  unfold uI
  have : upd (τ.1 c) k (gI τ c k) = τ.1 c := by
    funext x
    unfold upd
    by_cases h : x = k
    · subst h; rw [if_pos rfl]; rfl
    · rw [if_neg h]
  rw [this, rI_self]
theorem Mid.shuts {T : Td} {g0 g : Gs} {σ1 τ0 σ τ : Wd} {c : Nat} (h : Mid T g0 σ1 τ0 g σ τ) (hc : c < tN T) : ∃ g' σ' τ', M_X1_closeLog σ (nI c) = some σ' ∧ M_X9_shuts τ (nI c) = some τ' ∧ Mid T g0 σ1 τ0 g' σ' τ' ∧ (∀ a x y, a ≠ 4 → a ≠ 5 → g'.1 a x y = g.1 a x y) ∧ (∀ w, iX g' w = iX g w) := by
  have hn := h.2.2.2.2.2.2.1.1.2.2.2.2.1
  obtain ⟨g1, q1, q2, q3⟩ := h.add (d := 1) (i := 3) hc (by decide)
  have hH : gH g1 ≤ 8 := q1.2.2.2.2.2.2.1.1.2.2.2.1
  refine ⟨sG g1 c, rL (uL σ 29 (16 + 5 * 3 + c) (gL σ 29 (16 + 5 * 3 + c) + 1)) 29 (vp_updL (vp_updL (shN ((uL σ 29 (16 + 5 * 3 + c) (gL σ 29 (16 + 5 * 3 + c) + 1)).2.1 29) 36 0) 36 (lN c)) 5 (lN (min 8 (gH g1 + 1)))), rI (uI τ 26 (15 + 6 * c + (1 + 3)) (gI τ 26 (15 + 6 * c + (1 + 3)) + (1 : Int64).toInt32)) 26 (upd (upd (shN ((uI τ 26 (15 + 6 * c + (1 + 3)) (gI τ 26 (15 + 6 * c + (1 + 3)) + (1 : Int64).toInt32)).1 26) 5 0) 5 (nI c)) 4 (nI (min 8 (gH g1 + 1)))), ?_, ?_, q1.sh hc ?_ ?_ (fun k h1 h2 => ?_) (fun j h1 h2 => ?_) ?_ ?_ (fun k h1 h2 => ?_) (fun j h1 => ?_), fun a x y h4 h5 => ?_, fun w => q3 w⟩
  · have e5 : gL (uL σ 29 (16 + 5 * 3 + c) (gL σ 29 (16 + 5 * 3 + c) + 1)) 29 5 = lN (gH g1) := q1.2.2.2.1.1.2.2.2.2.2
    unfold M_X1_closeLog
    rw [show (31 : Int32) = nI 31 from rfl, nI_add, chk_pos ((ib_nI (by omega)).mpr (by omega)), chk_pos ((ib_nI (by omega)).mpr (by omega)), ix_nI (by omega)]
    simp only [lt_eq]
    rw [c_sh]
    simp only [bnd1_some, un1]
    rw [chk_pos (by decide), chk_pos (by decide), chk_pos (by decide), lN_I (by omega), show ix (36 : Int32) = 36 from rfl, show ix (5 : Int32) = 5 from rfl]
    have e : gL (uL (rL (uL σ 29 (31 + c) (gL σ 29 (31 + c) + 1)) 29 (shN ((uL σ 29 (31 + c) (gL σ 29 (31 + c) + 1)).2.1 29) 36 0)) 29 36 (lN c)) 29 5 = lN (gH g1) := by
      rw [gL_uL, if_neg (by decide), gL_rL, if_pos rfl]
      exact e5
    rw [e, lN_1]
    have e2 : (if (8 : Int64) < lN (gH g1 + 1) then (8 : Int64) else lN (gH g1 + 1)) = lN (min 8 (gH g1 + 1)) := by
      rw [show (8 : Int64) = lN 8 from rfl]
      by_cases hq : 8 < gH g1 + 1
      · rw [if_pos ((lN_lt (by omega) (by omega)).mpr hq), Nat.min_eq_left (by omega)]
      · rw [if_neg (fun z => hq ((lN_lt (by omega) (by omega)).mp z)), Nat.min_eq_right (by omega)]
    rw [e2, uL_rL, uL_rL]
  · have e4 : gI (uI τ 26 (15 + 6 * c + (1 + 3)) (gI τ 26 (15 + 6 * c + (1 + 3)) + (1 : Int64).toInt32)) 26 4 = nI (gH g1) := q1.2.2.2.2.2.1.1.2.2.2.2
    unfold M_X9_shuts
    rw [show (4 : Int32) = nI 4 from rfl, m_adds (by omega) (by decide), bnd1_some, m_sh]
    simp only [bnd1_some, un1, lt_eq]
    rw [chk_pos (by decide), chk_pos (by decide), chk_pos (by decide), chk_pos (by decide), show ix (5 : Int32) = 5 from rfl, show ix (nI 4) = 4 from rfl]
    have e : gI (uI (rI (uI τ 26 (15 + 6 * c + 4) (gI τ 26 (15 + 6 * c + 4) + 1)) 26 (shN ((uI τ 26 (15 + 6 * c + 4) (gI τ 26 (15 + 6 * c + 4) + 1)).1 26) 5 0)) 26 5 (nI c)) 26 4 = nI (gH g1) := by
      rw [gI_uI, if_neg (by decide), gI_rI, if_pos rfl]
      exact e4
    rw [e, show (8 : Int32) = nI 8 from rfl]
    by_cases hq : 8 ≤ gH g1
    · rw [if_pos ((nI_leI (by omega) (by omega)).mpr hq), Nat.min_eq_left (by omega), ← uI_rI, ← uI_rI, show nI 8 = nI (gH g1) by rw [show gH g1 = 8 by omega], ← e]
      exact congrArg some uI_self.symm
    · rw [if_neg (fun z => hq ((nI_leI (by omega) (by omega)).mp z)), Nat.min_eq_right (by omega), nI_1, uI_rI, uI_rI]
      rfl
  · exact if_pos rfl
  · show (if 36 = 5 then lN (min 8 (gH g1 + 1)) else if 36 = 36 then lN c else _) = _
    rw [if_neg (by decide), if_pos rfl]
  · show (if 36 + k = 5 then _ else if 36 + k = 36 then _ else shN _ 36 0 (36 + k)) = _
    rw [if_neg (by omega), if_neg (by omega)]
    unfold shN
    rw [if_pos (by omega), show 36 + k - 1 = 36 + (k - 1) by omega]
  · show (if j = 5 then _ else if j = 36 then _ else shN _ 36 0 j) = _
    rw [if_neg (by omega), if_neg (by omega)]
    unfold shN
    rw [if_neg (by omega)]
  · exact if_pos rfl
  · show (if 5 = 4 then nI (min 8 (gH g1 + 1)) else if 5 = 5 then nI c else _) = _
    rw [if_neg (by decide), if_pos rfl]
  · show (if 5 + k = 4 then _ else if 5 + k = 5 then _ else shN _ 5 0 (5 + k)) = _
    rw [if_neg (by omega), if_neg (by omega)]
    unfold shN
    rw [if_pos (by omega), show 5 + k - 1 = 5 + (k - 1) by omega]
  · show (if j = 4 then _ else if j = 5 then _ else shN _ 5 0 j) = _
    rw [if_neg (by omega), if_neg (by omega)]
    unfold shN
    rw [if_neg (by omega)]
  · refine Eq.trans ?_ (q2 a x y)
    show (if a = 5 then _ else if a = 4 then _ else g1.1 a x y) = _
    rw [if_neg h5, if_neg h4]
theorem gR_mid {T : Td} {t l : Nat} {σ τ : Wd} (h : RText T t l σ τ) : famT t ∧ gR σ 0 4 = t ∧ l < 2 ∧ gI τ 0 18 = nI l ∧ TInv T ∧ TC T t σ ∧ TM T l τ := ⟨h.1, h.2.1, h.2.2.2.1, h.2.2.2.2.1, h.2.2.2.2.2⟩
theorem st_9 : Sp_9 Rel := by
  intro σ τ h a
  have h0 := h
  obtain ⟨T, t, l, g, hT, ⟨hC, hA, hM, hI⟩, σ1, τ1, hk, hc, ⟨hKM, hS⟩, hT1, hm, hend⟩ := lay_start h
  obtain ⟨ht, h4, hl, h18, hTI, hTC, hTM⟩ := gR_mid hT
  have hT2 := RText_mid hm hT1
  obtain ⟨ht2, h42, hl2, h182, hTI2, hTC2, hTM2⟩ := gR_mid hT2
  have hn := hTI.2.1
  have hK : KM τ τ1 := hKM
  have hM1 := hm.2.2.2.2.2.1
  unfold M_X8_lead M_X9_lead
  rw [hc, bnd1_some]
  rcases bd_cases a (n := tN T) (by omega) with ⟨c, hc5, rfl⟩ | ha
  · rw [c_isCopy_t ht h4 hTC.1.1 (by omega) hc5, bnd1_some, if_neg n10, m_isCopy_t hl2 h182 hTM2.1.1 (by omega) hc5, bnd1_some, if_neg n10]
    have eP : M_X1_primary σ = some (nI (gP g)) := c_primary hC.1.2.1
    have ekK : M_X1_knownOf σ (nI c) = some (nI (gK g c)) := c_knownOf (by omega) (hC.2.2.1 c (by omega)).2.1
    have eO : M_X1_ordered σ = some (nI (gO g)) := c_ordered hC.1.2.2.2.1
    have hP := hI.1.2.2.1
    have hO : gO g ≤ 60 := Nat.le_trans hI.1.2.1 hI.1.1
    have hKc : gK g c ≤ gO g := hI.2.2.1 c (by omega)
    rw [eP, bnd1_some, chk_pos (by decide), show ix (2 : Int32) = 2 from rfl, show gI τ1 26 2 = nI (gP g) from hM1.1.2.2.1]
    by_cases hcP : c = gP g
    · rw [← hcP, if_pos rfl, if_pos rfl]
      exact ⟨0, σ, τ1, rfl, rfl, Rel_KM hK h0⟩
    · have e1 : ¬ nI c = nI (gP g) := fun z => hcP ((nI_eq (by omega) (by omega)).mp z)
      have e2 : ¬ nI (gP g) = nI c := fun z => e1 z.symm
      rw [if_neg e1, if_neg e2, ekK, bnd1_some, eO, bnd1_some, show M_X9_ofCopy τ1 (nI c) 0 = some (gI τ1 26 (15 + 6 * c + 0)) from m_ofCopy (k := 0) (by omega) (by decide), bnd1_some, chk_pos (by decide), show ix (1 : Int32) = 1 from rfl, show gI τ1 26 1 = nI (gO g) from hM1.1.2.1, show gI τ1 26 (15 + 6 * c + 0) = nI (gK g c) from (hM1.2.2.1 c (by omega)).1]
      by_cases hq : gO g ≤ gK g c
      · have hq' := (nI_leI (a := gO g) (b := gK g c) (by omega) (by omega)).mpr hq
        rw [if_pos hq', if_pos hq', hk, bnd1_some]
        obtain ⟨g2, σ2, τ2, p1, p2, m2, f1, f2⟩ := hm.opens hc5
        have hm3 : Mid T g σ1 τ1 (uG g2 2 0 0 c) (uL σ2 29 1 (lN c)) (uI τ2 26 2 (nI c)) := by
          have hI2 := m2.2.2.2.2.2.2.1
          refine m2.up ?_ ?_ ?_ ?_ ?_ rfl rfl (fun q => q)
          · refine ⟨by omega, fun _ => rfl, by omega, by omega, by omega, by omega, by intro k hk e; omega, fun c' hc' => ⟨by omega, by omega, by omega, by omega, by omega, by omega⟩, fun s' hs' => ⟨by omega, by omega, by omega, fun o ho => ⟨by omega, by omega⟩⟩⟩
          · intro j x hj q
            obtain ⟨q1, q2, q3⟩ := q
            exact ⟨q1, fun e => absurd e hj, q3⟩
          · refine ⟨by omega, by omega, fun _ => rfl, by omega, by omega, by intro k hk e; omega, fun c' hc' => ⟨by omega, fun i hi e => by omega⟩, fun s' hs' => ⟨by omega, by omega, by omega, fun o ho => ⟨by omega, by omega⟩⟩, fun w hw => ⟨by omega, by omega, by omega, by omega, by omega⟩, fun i hi => ⟨by omega, by omega⟩, fun c w hc hw e => by omega⟩
          · intro j x hj q
            obtain ⟨q1, q2, q3, q4⟩ := q
            exact ⟨q1, q2, fun e => absurd e hj, q4⟩
          · obtain ⟨i1, i2, i3, i4, i5⟩ := hI2
            refine ⟨⟨i1.1, i1.2.1, hc5, i1.2.2.2⟩, i2, i3, ?_, i5⟩
            show gK g2 c = gO g2
            rw [show gK g2 c = gK g c from f1 _ _ _, show gO g2 = gO g from f1 _ _ _]
            omega
        obtain ⟨g3, σ3, τ3, r1, r2, m3, f3⟩ := hm3.shuts hc5
        obtain ⟨τ4, z1, z2⟩ := hend _ _ _ m3
        refine ⟨1, σ3, τ4, ?_, ?_, z2⟩
        · rw [p1, bnd1_some]
          unfold M_X1_setPrimary
          rw [chk_pos (by decide), lN_I (by omega)]
          show bnd1 (M_X1_closeLog (uL σ2 29 1 (lN c)) (nI c)) _ = _
          rw [r1, bnd1_some]
        · rw [p2, bnd1_some, chk_pos (by decide)]
          simp only [lt_eq]
          show bnd1 (M_X9_shuts (uI τ2 26 2 (nI c)) (nI c)) _ = _
          rw [r2, bnd1_some, z1, bnd1_some]
      · have hq' : ¬ nI (gO g) ≤ nI (gK g c) := fun z => hq ((nI_leI (by omega) (by omega)).mp z)
        rw [if_neg hq', if_neg hq']
        exact ⟨0, σ, τ1, rfl, rfl, Rel_KM hK h0⟩
  · rw [c_isCopy_f ht h4 hTC.1.1 ha, bnd1_some, if_pos rfl, m_isCopy_f hl2 h182 hTM2.1.1 (by omega) ha, bnd1_some, if_pos rfl]
    exact ⟨0, σ, τ1, rfl, rfl, Rel_KM hK h0⟩
