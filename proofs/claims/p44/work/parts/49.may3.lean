/-! may -/
theorem st_33 : Sp_33 Rel := by
  intro σ τ h a b0
  obtain ⟨T', t', l', g', hT', _⟩ := h.T
  unfold M_X8_may M_X9_may
  rcases bd_cases a (n := 4) (by decide) with ⟨s, hs, rfl⟩ | ha
  · obtain ⟨T, t, l, g, τ1, hc, hK, hR, hQ, hT⟩ := ask_start h
    obtain ⟨hW, hO, hP, hn⟩ := q_bd hQ
    obtain ⟨k1, k2, k3⟩ := q_18 hQ
    obtain ⟨ht, h4, hl, h18, hTI, hTC, hTM⟩ := gR_mid hQ.1
    rw [c_isSession_t hs, bnd1_some, if_pos (show (1 : Int32) ≠ 0 by decide), m_isSession_t hs, bnd1_some, if_pos (show (1 : Int32) ≠ 0 by decide), hc, bnd1_some]
    have key : ∀ c, c < 5 → ∃ ra rm : Int32, (if bI b0 = 0 then M_X1_refusesAsk σ (nI s) (nI c) else M_X1_refusesMake σ (nI s) (nI c)) = some ra ∧ (if bI b0 = 0 then M_X9_mayAsk τ1 (nI s) (nI c) else M_X9_mayMake τ1 (nI s) (nI c)) = some rm ∧ (ra = 0 ∧ rm = 1 ∨ ra = 1 ∧ rm = 0) := fun c hc5 => by
      by_cases hb : bI b0 = 0
      · simp only [if_pos hb]
        exact q_mayAsk hQ hs hc5
      · simp only [if_neg hb]
        exact q_mayMake hQ hs hc5
    have cc : ∀ (v : Int32) (i : Nat), i < tN T → ∃ v', M_X8_may_L14 σ (nI s) (bI b0) v (nI i) = some (.inl (v', nI (i + 1))) ∧ M_X9_may_L18 τ1 (nI s) (bI b0) v (nI i) = some (.inl (v', nI (i + 1))) := fun v i hi => by
      obtain ⟨ra, rm, r1, r2, r3⟩ := key i (by omega)
      have hle : ¬ nI (tN T) ≤ nI i := fun z => by have := (nI_leI (by omega) (by omega)).mp z; omega
      unfold M_X8_may_L14 M_X9_may_L18
      rw [h4, chk_pos ht, hTC.1.1, if_neg hle, k1, chk_pos ((ib_nI (by omega)).mpr k2), ix_nI (by omega), k3, if_neg hle]
      unfold M_X8_may_J53 M_X9_may_J59
      simp only [lt_eq, nI_1]
      by_cases hb : bI b0 = 0
      · rw [if_pos hb] at r1 r2
        rw [if_pos hb, if_pos hb, r1, r2, bnd1_some, bnd1_some]
        rcases r3 with ⟨rfl, rfl⟩ | ⟨rfl, rfl⟩
        · rw [if_neg (show ¬ (0 : Int32) ≠ 0 by decide), if_neg n10]
          exact ⟨_, rfl, rfl⟩
        · rw [if_pos (show (1 : Int32) ≠ 0 by decide), if_pos rfl]
          exact ⟨_, rfl, rfl⟩
      · rw [if_neg hb] at r1 r2
        rw [if_neg hb, if_neg hb, r1, r2, bnd1_some, bnd1_some]
        rcases r3 with ⟨rfl, rfl⟩ | ⟨rfl, rfl⟩
        · rw [if_neg (show ¬ (0 : Int32) ≠ 0 by decide), if_neg n10]
          exact ⟨_, rfl, rfl⟩
        · rw [if_pos (show (1 : Int32) ≠ 0 by decide), if_pos rfl]
          exact ⟨_, rfl, rfl⟩
    have ce : ∀ v : Int32, M_X8_may_L14 σ (nI s) (bI b0) v (nI (tN T)) = some (.inr v) ∧ M_X9_may_L18 τ1 (nI s) (bI b0) v (nI (tN T)) = some (.inr v) := fun v => by
      have hle : nI (tN T) ≤ nI (tN T) := (nI_leI (by omega) (by omega)).mpr (Nat.le_refl _)
      unfold M_X8_may_L14 M_X9_may_L18
      rw [h4, chk_pos ht, hTC.1.1, if_pos hle, k1, chk_pos ((ib_nI (by omega)).mpr k2), ix_nI (by omega), k3, if_pos hle]
      exact ⟨rfl, rfl⟩
    have run : ∀ (d i : Nat) (v : Int32) (n : Nat), i + d = tN T → d < n → ∃ r, iter (fun x : Int32 × Int32 => M_X8_may_L14 σ (nI s) (bI b0) x.1 x.2) n (v, nI i) = some r ∧ iter (fun x : Int32 × Int32 => M_X9_may_L18 τ1 (nI s) (bI b0) x.1 x.2) n (v, nI i) = some r := by
      intro d
      induction d with
      | zero =>
        intro i v n hi hn'
        obtain ⟨m, rfl⟩ : ∃ m, n = m + 1 := ⟨n - 1, by omega⟩
        have hi' : i = tN T := by omega
        subst hi'
        exact ⟨v, it_x (ce v).1, it_x (ce v).2⟩
      | succ d ih =>
        intro i v n hi hn'
        obtain ⟨m, rfl⟩ : ∃ m, n = m + 1 := ⟨n - 1, by omega⟩
        obtain ⟨v', e1, e2⟩ := cc v i (by omega)
        obtain ⟨r, r1, r2⟩ := ih (i + 1) v' m (by omega) (by omega)
        exact ⟨r, (it_s e1).trans r1, (it_s e2).trans r2⟩
    obtain ⟨r, r1, r2⟩ := run (tN T) 0 0 FU (by omega) (FU_big (by omega))
    refine ⟨r, τ1, ?_, ?_, hR⟩
    · rw [show ((0 : Int32), (0 : Int32)) = ((0 : Int32), nI 0) from rfl, r1, bnd1_some]
      rfl
    · rw [show ((0 : Int32), (0 : Int32)) = ((0 : Int32), nI 0) from rfl, r2, bnd1_some]
      rfl
  · rw [c_isSession_f ha, bnd1_some, if_neg (show ¬ (0 : Int32) ≠ 0 by decide), m_isSession_f ha, bnd1_some, if_neg (show ¬ (0 : Int32) ≠ 0 by decide)]
    exact ⟨_, τ, rfl, rfl, h⟩
