/-! the calls that only ask for a number -/
theorem st_6 : Sp_6 Rel := by
  intro σ τ h a
  obtain ⟨T, t, l, g, hT, hC, hA, hM, hI⟩ := h.T
  rcases bd_cases a (n := 4) (by decide) with ⟨s, hs, rfl⟩ | ha
  · refine ⟨iGt g s, ?_, ?_, h⟩
    · unfold M_X8_got
      rw [c_isSession_t hs, bnd1_some, if_neg (by decide), show (52 : Int32) = nI 52 from rfl, c_snumber (by omega), bnd1_some]
      show some (σ.2.1 29 (52 + s)).toInt32 = _
      rw [(hC.2.2.2 s hs).2.2.1]
    · unfold M_X9_got
      rw [m_isSession_t hs, bnd1_some, if_neg (by decide)]
      simp (disch := omega) only [i_lit, pk_mul, nI_add, ib_nI, ix_nI, nI_leI, nI_ltI, nI_eq, ne_eq]
      rw [chk_pos (by omega)]
      exact congrArg some (hM.2.2.2.1 s hs).2.2.1
  · refine ⟨0, ?_, ?_, h⟩
    · unfold M_X8_got; rw [c_isSession_f ha, bnd1_some, if_pos rfl]
    · unfold M_X9_got; rw [m_isSession_f ha, bnd1_some, if_pos rfl]
theorem st_16 : Sp_16 Rel := by
  intro σ τ h a
  obtain ⟨T, t, l, g, hT, hC, hA, hM, hI⟩ := h.T
  have hW := hI.1.1
  rcases bd_cases a (n := gW g) (by omega) with ⟨w, hw, rfl⟩ | ha
  · refine ⟨iX g w, ?_, ?_, h⟩
    · unfold M_X8_with
      rw [c_isWrite_t hC.1.2.2.1 (by omega) hw, bnd1_some, if_neg (by decide), chk_pos ((ib_nI (by omega)).mpr (by omega)), ix_nI (by omega)]
      exact congrArg some (hA.1 w hw).2.1
    · unfold M_X9_with
      rw [m_isWrite_t hM.1.1 (by omega) hw, bnd1_some, if_neg (by decide)]
      simp (disch := omega) only [i_lit, pk_mul, nI_add, ib_nI, ix_nI, nI_leI, nI_ltI, nI_eq, ne_eq]
      rw [chk_pos (by omega)]
      exact congrArg some (hM.2.2.2.2.1 w hw).2.1
  · refine ⟨0, ?_, ?_, h⟩
    · unfold M_X8_with; rw [c_isWrite_f hC.1.2.2.1 ha, bnd1_some, if_pos rfl]
    · unfold M_X9_with; rw [m_isWrite_f hM.1.1 (by omega) ha, bnd1_some, if_pos rfl]
theorem nI_lt0 {v : Int32} {n : Nat} (h : v < 0 ∨ nI n ≤ v) (h0 : ¬ v < 0) : nI n ≤ v := by
  rcases h with h | h
  · exact absurd h h0
  · exact h
theorem nI_le_not {v : Int32} {m : Nat} (h : nI (m + 1) ≤ v) (hm : m < 2 ^ 30) : ¬ v ≤ nI m := by
  rw [Int32.le_iff_toInt_le, nI_toInt (by omega)] at h ⊢
  omega
theorem nI_lt_not {v : Int32} {m : Nat} (h : nI m ≤ v) : ¬ v < nI m := by
  rw [Int32.le_iff_toInt_le] at h
  rw [Int32.lt_iff_toInt_lt]
  omega
theorem st_19 : Sp_19 Rel := by
  intro σ τ h a b
  obtain ⟨T, t, l, g, hT, hC, hA, hM, hI⟩ := h.T
  rcases bd_cases a (n := 4) (by decide) with ⟨s, hs, rfl⟩ | ha
  · rcases bd_cases b (n := 2) (by decide) with ⟨k, hk, rfl⟩ | hb
    · have e9 : M_X9_session τ (nI s) (nI k) = some (gI τ 25 (50 + 14 * s + k)) := by
        unfold M_X9_session
        rw [m_isSession_t hs, bnd1_some, if_neg (by decide), show (1 : Int32) = nI 1 from rfl, m_inl_t (by omega) (by decide), bnd1_some, if_neg (by decide)]
        simp (disch := omega) only [i_lit, pk_mul, nI_add, ib_nI, ix_nI, nI_leI, nI_ltI, nI_eq, ne_eq]
        rw [chk_pos (by omega)]
      have e8 : M_X8_session σ (nI s) (nI k) = some (σ.2.1 29 (44 + 4 * k + s)).toInt32 := by
        unfold M_X8_session
        rw [c_isSession_t hs, bnd1_some, if_neg (by decide), if_neg (nI_n0 (by omega)), if_pos (by rw [show (1 : Int32) = nI 1 from rfl, nI_leI (by omega) (by omega)]; omega)]
        rcases (show k = 0 ∨ k = 1 by omega) with rfl | rfl
        · rw [if_neg (by decide)]
          unfold M_X8_session_J33
          rw [show (44 : Int32) = nI 44 from rfl, c_snumber (by omega), bnd1_some]
          rfl
        · rw [if_pos (by decide)]
          unfold M_X8_session_J33
          rw [show (48 : Int32) = nI 48 from rfl, c_snumber (by omega), bnd1_some]
          rfl
      have hc := hC.2.2.2 s hs
      have hm := hM.2.2.2.1 s hs
      refine ⟨_, e8, ?_, h⟩
      rw [e9]
      rcases (show k = 0 ∨ k = 1 by omega) with rfl | rfl
      · refine congrArg some (hm.1.trans ?_)
        exact (lN32 hc.1).symm
      · exact congrArg some (hm.2.1.trans hc.2.1.symm)
    · refine ⟨-1, ?_, ?_, h⟩
      · unfold M_X8_session
        rw [c_isSession_t hs, bnd1_some, if_neg (by decide)]
        by_cases h0 : b < 0
        · rw [if_pos h0]
        · rw [if_neg h0, if_neg (show ¬ b ≤ 1 from nI_le_not (m := 1) (nI_lt0 hb h0) (by decide))]
      · unfold M_X9_session
        rw [m_isSession_t hs, bnd1_some, if_neg (by decide), show (1 : Int32) = nI 1 from rfl, m_inl_f hb (by decide), bnd1_some, if_pos rfl]
  · refine ⟨-1, ?_, ?_, h⟩
    · unfold M_X8_session; rw [c_isSession_f ha, bnd1_some, if_pos rfl]
    · unfold M_X9_session; rw [m_isSession_f ha, bnd1_some, if_pos rfl]
theorem bI_cases (x : Int32) : bI x = 0 ∨ bI x = 1 := by
  unfold bI
  by_cases h : x = 0 <;> simp [h]
theorem st_20 : Sp_20 Rel := by
  intro σ τ h a b c
  obtain ⟨T, t, l, g, ⟨ht, h4, hl, h18, hTI, hTC, hTM⟩, hC, hA, hM, hI⟩ := h.T
  have hn5 : tN T ≤ 5 := hTI.2.1
  rcases bd_cases a (n := 4) (by decide) with ⟨s, hs, rfl⟩ | ha
  · rcases bd_cases b (n := tN T) (by omega) with ⟨o, ho, rfl⟩ | hb
    · have hc := (hC.2.2.2 s hs).2.2.2 o (by omega)
      have hm := (hM.2.2.2.1 s hs).2.2.2 o (by omega)
      rcases bI_cases c with e | e
      · refine ⟨nI (gE g s o), ?_, ?_, h⟩
        · rw [e]
          unfold M_X8_of M_X8_of_J32
          rw [c_isSession_t hs, bnd1_some, if_neg (by decide), c_isCopy_t ht h4 hTC.1.1 (by omega) ho, bnd1_some, if_pos (by decide), if_pos rfl, show (56 : Int32) = nI 56 from rfl, c_svector (by omega), bnd1_some]
          refine congrArg some (lN32 ?_)
          rw [show 56 + s * 5 + o = 56 + 5 * s + o by omega]
          exact hc.1
        · rw [e]
          unfold M_X9_of M_X9_of_J36
          rw [m_isSession_t hs, bnd1_some, if_neg (by decide), m_isCopy_t hl h18 hTM.1.1 (by omega) ho, bnd1_some, if_neg (by decide), if_pos rfl]
          simp (disch := omega) only [i_lit, pk_mul, nI_add, ib_nI, ix_nI, nI_leI, nI_ltI, nI_eq, ne_eq]
          rw [chk_pos (by omega)]
          exact congrArg some hm.1
      · refine ⟨nI (gU g s o), ?_, ?_, h⟩
        · rw [e]
          unfold M_X8_of M_X8_of_J32
          rw [c_isSession_t hs, bnd1_some, if_neg (by decide), c_isCopy_t ht h4 hTC.1.1 (by omega) ho, bnd1_some, if_pos (by decide), if_neg (by decide), show (76 : Int32) = nI 76 from rfl, c_svector (by omega), bnd1_some]
          refine congrArg some (lN32 ?_)
          rw [show 76 + s * 5 + o = 76 + 5 * s + o by omega]
          exact hc.2
        · rw [e]
          unfold M_X9_of M_X9_of_J36
          rw [m_isSession_t hs, bnd1_some, if_neg (by decide), m_isCopy_t hl h18 hTM.1.1 (by omega) ho, bnd1_some, if_neg (by decide), if_neg (by decide)]
          simp (disch := omega) only [i_lit, pk_mul, nI_add, ib_nI, ix_nI, nI_leI, nI_ltI, nI_eq, ne_eq]
          rw [chk_pos (by omega)]
          exact congrArg some hm.2
    · refine ⟨-1, ?_, ?_, h⟩
      · unfold M_X8_of
        rw [c_isSession_t hs, bnd1_some, if_neg (by decide), c_isCopy_f ht h4 hTC.1.1 hb, bnd1_some, if_neg (by decide)]
      · unfold M_X9_of
        rw [m_isSession_t hs, bnd1_some, if_neg (by decide), m_isCopy_f hl h18 hTM.1.1 (by omega) hb, bnd1_some, if_pos rfl]
  · refine ⟨-1, ?_, ?_, h⟩
    · unfold M_X8_of; rw [c_isSession_f ha, bnd1_some, if_pos rfl]
    · unfold M_X9_of; rw [m_isSession_f ha, bnd1_some, if_pos rfl]
theorem st_21 : Sp_21 Rel := by
  intro σ τ h a
  obtain ⟨T, t, l, g, hT, hC, hA, hM, hI⟩ := h.T
  have hH := hI.1.2.2.2.1
  rcases bd_cases a (n := 8) (by decide) with ⟨k, hk, rfl⟩ | ha
  · have e8 : M_X8_shut σ (nI k) = bnd1 (M_X1_latelyClosed σ (nI k)) fun r => some r := by
      unfold M_X8_shut
      rw [if_neg (nI_n0 (by omega)), if_pos (by rw [show (8 : Int32) = nI 8 from rfl, nI_ltI (by omega) (by omega)]; exact hk)]
    have e9 : M_X9_shut τ (nI k) = if nI (gH g) ≤ nI k then some (-2) else some (gI τ 25 (5 + k)) := by
      unfold M_X9_shut
      rw [show (7 : Int32) = nI 7 from rfl, m_inl_t (by omega) (by decide), bnd1_some, if_pos (by decide), chk_pos (by decide), show ix (4 : Int32) = 4 from rfl]
      have e4 : gI τ 25 4 = nI (gH g) := hM.1.2.2.2.2
      rw [e4]
      by_cases hq : nI (gH g) ≤ nI k
      · rw [if_pos hq, if_pos hq]
      · rw [if_neg hq, if_neg hq]
        simp (disch := omega) only [i_lit, pk_mul, nI_add, ib_nI, ix_nI, nI_leI, nI_ltI, nI_eq, ne_eq]
        rw [chk_pos (by omega)]
    have e5 : gL σ 29 5 = lN (gH g) := hC.1.2.2.2.2.2
    have e7 : M_X1_latelyClosed σ (nI k) = if nI (gH g) ≤ nI k then some (-2) else some (gL σ 29 (36 + k)).toInt32 := by
      unfold M_X1_latelyClosed
      rw [chk_pos (by decide), show ix (5 : Int32) = 5 from rfl, e5, nI_l (by omega)]
      by_cases hq : gH g ≤ k
      · rw [if_pos ((lg_cmp_ge _ _).mpr ((lN_le (by omega) (by omega)).mpr hq)), if_pos ((nI_leI (by omega) (by omega)).mpr hq)]
      · rw [if_neg (fun z => hq ((lN_le (by omega) (by omega)).mp ((lg_cmp_ge _ _).mp z))), if_neg (fun z => hq ((nI_leI (by omega) (by omega)).mp z))]
        simp (disch := omega) only [i_lit, pk_mul, nI_add, ib_nI, ix_nI, nI_leI, nI_ltI, nI_eq, ne_eq]
        rw [chk_pos (by omega)]
    by_cases hq : gH g ≤ k
    · have hq2 := (nI_leI (a := gH g) (b := k) (by omega) (by omega)).mpr hq
      exact ⟨-2, by rw [e8, e7, if_pos hq2]; rfl, by rw [e9, if_pos hq2], h⟩
    · have hq2 : ¬ nI (gH g) ≤ nI k := by rw [nI_leI (by omega) (by omega)]; exact hq
      refine ⟨nI (gh g k), ?_, ?_, h⟩
      · rw [e8, e7, if_neg hq2, bnd1_some]
        exact congrArg some (lN32 (hC.2.1 k (by omega)))
      · rw [e9, if_neg hq2]
        exact congrArg some (hM.2.1 k (by omega))
  · refine ⟨-1, ?_, ?_, h⟩
    · unfold M_X8_shut
      by_cases h0 : a < 0
      · rw [if_pos h0]
      · rw [if_neg h0, if_neg (show ¬ a < 8 from nI_lt_not (nI_lt0 ha h0))]
    · unfold M_X9_shut
      rw [show (7 : Int32) = nI 7 from rfl, m_inl_f ha (by decide), bnd1_some, if_neg (by decide)]
