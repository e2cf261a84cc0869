/-! the beginning and the end of a change; promise -/
theorem RText_mid {T : Td} {t l : Nat} {g0 g : Gs} {σ1 τ0 σ τ : Wd} (h : Mid T g0 σ1 τ0 g σ τ) (hT : RText T t l σ1 τ0) : RText T t l σ τ := by
  obtain ⟨a, b, c⟩ := h
  exact RText_eq (a.1 0 (by decide) (Or.inl (by decide))).2.2 (fun c q1 q2 => (a.1 c (by omega) (Or.inl (by omega))).1) (b.2.2 18 (by decide)) (fun c q1 q2 => b.1 c (by unfold pM; simp; omega)) hT
theorem lay_start {σ τ : Wd} (h : Rel σ τ) : ∃ T t l g, RText T t l σ τ ∧ RNow T g σ τ ∧ ∃ σ1 τ1, M_X2_keep σ = some σ1 ∧ M_X9_copiesNow τ = some τ1 ∧ (KM τ τ1 ∧ gI τ1 0 43 = nI (tS T)) ∧ RText T t l σ1 τ1 ∧ Mid T g σ1 τ1 g σ1 τ1 ∧ (∀ g' σ2 τ2, Mid T g σ1 τ1 g' σ2 τ2 → ∃ τ3, M_X9_records τ2 = some τ3 ∧ Rel σ2 τ3) := by
  obtain ⟨T, t, l, tp, un, nx, g, hs, sl, hl, h1, h2, h3, h4, h5, h6, h7⟩ := Rel_iff.mp h
  have k := c_keep h5.1 h5.2.1 h5.2.2.1 h5.2.2.2.1
  have c := m_copiesNow (τ := τ) (n := tS T) h3.2.2.2.1 h3.2.2.2.2.1 h3.2.2.2.2.2.2.2.1.2.2.1
  have kk : KM τ (uI (rI τ 26 (va_cpy (τ.1 25) (τ.1 26) 0 0 770)) 0 43 (nI (tS T))) := KM.wO (by decide) (KM.wI rfl (by decide) KM.refl)
  refine ⟨T, t, l, g, h3, h4, _, _, k, c, ⟨kk, ?_⟩, ?_, ⟨FC.refl, KM.refl, rfl, ?_, ?_, ?_, h4.2.2.2, Nat.le_refl _, Nat.le_refl _⟩, fun g' σ2 τ2 hM => ?_⟩
  · simp only [gI_uI, gI_rI, gI_uL, gI_rL, gI_uR, gL_uL, gL_rL, gL_uI, gL_rI, gL_uR, gR_uI, gR_rI, gR_uL, gR_rL, gR_uR]; simp
  · refine RText_eq (σ := σ) (τ := τ) rfl (fun c a b => ?_) (kk.2.2 18 (by decide)) (fun c q1 q2 => kk.1 c (by unfold pM; simp; omega)) h3
    unfold uI rI rL
    have : c ≠ 66 := by omega
    simp [this]
  · have : (uI (uI (rL σ (68 + nx) (va_cpy (σ.2.1 29) (σ.2.1 (68 + nx)) 0 0 96)) 66 1 (nI ((nx + 1) % 40))) 66 2 (nI (min 40 (un + 1)))).2.1 29 = σ.2.1 29 := by
      unfold uI rI rL
      have : 29 ≠ 68 + nx := by omega
      simp [this]
    rw [this]
    exact h4.1
  · refine CA_eq (fun j a b => ?_) h4.2.1
    unfold uI rI rL
    have : 28 + j ≠ 66 := by omega
    simp [this]
  · refine MR_cong h4.2.2.2 (fun k hk => ?_) h4.2.2.1
    show (uI _ 0 43 _).1 26 k = _
    unfold uI rI
    simp only [Nat.reduceEqDiff, if_false, if_true]
    exact cpy_at hk
  · obtain ⟨a, b, c, d, e, f, i, w, o⟩ := hM
    exact Rel_lay h1 h2 h3 h4 h5 h6 h7 k a.1 a.2.1 a.2.2 (kk.trans b) d e f i w o
theorem lN_I {n : Nat} (h : n < 2 ^ 31) : (nI n).toInt64 = lN n := nI_l h
theorem n10 : ¬ (1 : Int32) = 0 := by decide
theorem st_7 : Sp_7 Rel := by
  intro σ τ h a b
  have h0 := h
  obtain ⟨T, t, l, g, hT, ⟨hC, hA, hM, hI⟩, σ1, τ1, hk, hc, ⟨hKM, hS⟩, hT1, hm, hend⟩ := lay_start h
  unfold M_X8_promise M_X9_promise
  rcases bd_cases a (n := 4) (by decide) with ⟨s, hs, rfl⟩ | ha
  · rw [c_isSession_t hs, bnd1_some, if_neg n10, m_isSession_t hs, bnd1_some, if_neg n10]
    rcases bd_cases b (n := 16) (by decide) with ⟨v, hv, rfl⟩ | hb
    · have hq := hI.2.2.2.2.2.2.2.2.2.2.2.1
      have hQ := (hq s hs).1
      rw [if_neg (nI_n0 (by omega)), if_pos (by rw [show (15 : Int32) = nI 15 from rfl, nI_leI (by omega) (by omega)]; omega), show (44 : Int32) = nI 44 from rfl, c_snumber (by omega), bnd1_some, show (15 : Int32) = nI 15 from rfl, m_inl_t (by omega) (by decide), bnd1_some, if_neg n10]
      rw [show (gL σ 29 (44 + s)).toInt32 = nI (gQ g s) from lN32 (hC.2.2.2 s hs).1]
      rw [show (50 : Int32) + 14 * nI s = nI (50 + 14 * s) by rw [show (50 : Int32) = nI 50 from rfl, show (14 : Int32) = nI 14 from rfl, pk_mul, nI_add], chk_pos ((ib_nI (by omega)).mpr (by omega)), ix_nI (by omega), show gI τ 25 (50 + 14 * s) = nI (gQ g s) from (hM.2.2.2.1 s hs).1]
      by_cases he : gQ g s = v
      · rw [he, if_neg (fun z => z rfl), if_neg (fun z => z rfl)]
        exact ⟨0, σ, τ, rfl, rfl, h0⟩
      · have he' := (nI_ne (a := gQ g s) (b := v) (by omega) (by omega)).mpr he
        rw [if_pos he', if_pos he', hk, bnd1_some, hc, bnd1_some]
        have e8 : M_X1_setPromises σ1 (nI s) (nI v) = some (uL σ1 29 (44 + s) (lN v)) := by
          unfold M_X1_setPromises
          rw [show (44 : Int32) = nI 44 from rfl, nI_add, chk_pos ((ib_nI (by omega)).mpr (by omega)), ix_nI (by omega), lN_I (by omega)]
          rfl
        rw [e8, bnd1_some]
        rw [show nI (50 + 14 * s) + 0 = nI (50 + 14 * s) from nI_add _ 0, chk_pos ((ib_nI (by omega)).mpr (by omega)), ix_nI (by omega)]
        simp only [lt_eq]
        have hm2 : Mid T g σ1 τ1 (uG g 12 s 0 v) (uL σ1 29 (44 + s) (lN v)) (uI τ1 26 (50 + 14 * s) (nI v)) := by
          refine hm.up ?_ ?_ ?_ ?_ ?_ rfl rfl (fun q => q)
          · refine ⟨by omega, by omega, by omega, by omega, by omega, by omega, by intro k hk e; have := hI.1.2.2.2.1; have : k < 8 := Nat.lt_of_lt_of_le hk this; omega, fun c hc => ⟨by omega, by omega, by omega, by omega, by omega, by omega⟩, fun s' hs' => ⟨fun e => ?_, by omega, by omega, fun o ho => ⟨by omega, by omega⟩⟩⟩
            have : s' = s := by omega
            subst this
            rw [show gQ (uG g 12 s' 0 v) s' = v from uG_s]
          · intro j x hj q
            obtain ⟨q1, q2, q3, q4, q5, q6, q7, q8, q9⟩ := q
            refine ⟨q1, q2, q3, q4, q5, q6, q7, q8, fun s' hs' => ⟨fun e => ?_, (q9 s' hs').2⟩⟩
            rw [show gQ (uG g 12 s 0 v) s' = gQ g s' from uG_o (by omega)]
            exact (q9 s' hs').1 e
          · have hH := hI.1.2.2.2.1
            have hW := hI.1.1
            have hO := hI.1.2.1
            refine ⟨by omega, by omega, by omega, by omega, by omega, by intro k hk e; have : k < 8 := Nat.lt_of_lt_of_le hk hH; omega, fun c hc => ⟨by omega, fun i hi e => by omega⟩, fun s' hs' => ⟨fun e => ?_, by omega, by omega, fun o ho => ⟨by omega, by omega⟩⟩, fun w hw => ⟨by omega, by omega, by omega, by omega, by omega⟩, fun i hi => ⟨by omega, by omega⟩, fun c w hc hw e => by omega⟩
            have : s' = s := by omega
            subst this
            rw [show gQ (uG g 12 s' 0 v) s' = v from uG_s]
          · intro j x hj q
            obtain ⟨q1, q2, q3, q4, q5, q6, q7, q8, q9, q10, q11⟩ := q
            refine ⟨q1, q2, q3, q4, q5, q6, q7, fun s' hs' => ⟨fun e => ?_, (q8 s' hs').2⟩, q9, q10, q11⟩
            rw [show gQ (uG g 12 s 0 v) s' = gQ g s' from uG_o (by omega)]
            exact (q8 s' hs').1 e
          · obtain ⟨i1, i2, i3, i4, i5, i6, i7, i8, i9, i10, i11, i12, i13, i14⟩ := hI
            refine ⟨i1, i2, i3, i4, i5, i6, i7, i8, i9, i10, i11, fun s' hs' => ⟨?_, (i12 s' hs').2⟩, i13, i14⟩
            by_cases e : s' = s
            · subst e
              rw [show gQ (uG g 12 s' 0 v) s' = v from uG_s]
              omega
            · rw [show gQ (uG g 12 s 0 v) s' = gQ g s' from uG_o (by omega)]
              exact (i12 s' hs').1
        obtain ⟨τ3, r1, r2⟩ := hend _ _ _ hm2
        rw [r1, bnd1_some]
        exact ⟨1, _, τ3, rfl, rfl, r2⟩
    · rw [show (15 : Int32) = nI 15 from rfl, m_inl_f hb (by decide), bnd1_some, if_pos rfl]
      by_cases hz : b < 0
      · rw [if_pos hz]
        exact ⟨0, σ, τ, rfl, rfl, h0⟩
      · rw [if_neg hz, if_neg (show ¬ b ≤ nI 15 from nI_le_not (m := 15) (nI_lt0 hb hz) (by decide))]
        exact ⟨0, σ, τ, rfl, rfl, h0⟩
  · rw [c_isSession_f ha, bnd1_some, if_pos rfl, m_isSession_f ha, bnd1_some, if_pos rfl]
    exact ⟨0, σ, τ, rfl, rfl, h0⟩
