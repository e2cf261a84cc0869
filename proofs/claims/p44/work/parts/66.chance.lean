/-! meetings by chance -/
theorem lot_v (r : Int32) {n : Nat} (h1 : 1 ≤ n) (hn : n < 2 ^ 31) : ∃ k, k < n ∧ ((r.toUInt32 >>> ((1 : Int32).toUInt32 &&& Int32.toUInt32 31)).toInt32) - ((r.toUInt32 >>> ((1 : Int32).toUInt32 &&& Int32.toUInt32 31)).toInt32) / nI n * nI n = nI k := by
  have e := pk_ushr r 1 1 (by decide)
  have hlt : r.toBitVec.toNat < 2 ^ 32 := r.toBitVec.isLt
  have e2 : (r.toUInt32 >>> ((1 : Int32).toUInt32 &&& Int32.toUInt32 31)).toInt32 = nI (r.toBitVec.toNat / 2 ^ 1) := by
    apply Int32.toBitVec_inj.mp
    apply BitVec.eq_of_toNat_eq
    rw [e, pk_tn (by omega)]
  rw [e2, pk_rem (by omega) (by omega) hn]
  exact ⟨_, Nat.mod_lt _ (by omega), rfl⟩
theorem lot_eq {τ : Wd} {s w : Int32} {n : Nat} (h : gI τ 0 43 = s) (h1 : 1 ≤ n) (hn : n < 2 ^ 31) : ∃ k, k < n ∧ M_X5_lot (nI n) s w = some (nI k) ∧ M_X9_lotOf τ w (nI n) = some (nI k) := by
  unfold M_X5_lot M_X9_lotOf M_X5_stir M_X9_mixed
  simp only [lt_eq, bnd1_some]
  rw [h, if_pos (show (1 : Int32) ≤ nI n from (nI_leI (a := 1) (by decide) hn).mpr h1), chk_pos (nI_ne0 (by omega) hn)]
  obtain ⟨k, hk, e⟩ := lot_v (((((s ^^^ 223) * 1103515245 + 12345 ^^^ ((((s ^^^ 223) * 1103515245 + 12345).toUInt32 >>> ((15 : Int32).toUInt32 &&& Int32.toUInt32 31)).toInt32)) ^^^ w) * 1103515245 + 12345) ^^^ ((((((s ^^^ 223) * 1103515245 + 12345 ^^^ ((((s ^^^ 223) * 1103515245 + 12345).toUInt32 >>> ((15 : Int32).toUInt32 &&& Int32.toUInt32 31)).toInt32)) ^^^ w) * 1103515245 + 12345).toUInt32 >>> ((15 : Int32).toUInt32 &&& Int32.toUInt32 31)).toInt32)) h1 hn
  rw [e]
  exact ⟨k, hk, rfl, rfl⟩
theorem who_meets {τ : Wd} {s m : Int32} {n : Nat} (h : gI τ 0 43 = s) (h2 : 2 ≤ n) (hn : n ≤ 5) : ∃ a b r, a < n ∧ b < n ∧ a ≠ b ∧ M_X5_giver (nI n) s m = some (nI a) ∧ M_X5_taker (nI a) (nI n) s m = some (nI b) ∧ M_X9_lotOf τ (2 * m) (nI n) = some (nI a) ∧ M_X9_lotOf τ (2 * m + 1) (nI n - 1) = some r ∧ ((nI a + 1) + r) - ((nI a + 1) + r) / nI n * nI n = nI b := by
  obtain ⟨a, ha, a1, a2⟩ := lot_eq (n := n) (w := 2 * m) h (by omega) (by omega)
  obtain ⟨k, hk, k1, k2⟩ := lot_eq (n := n - 1) (w := 2 * m + 1) h (by omega) (by omega)
  have e : ((nI a + 1) + nI k) - ((nI a + 1) + nI k) / nI n * nI n = nI ((a + 1 + k) % n) := by
    rw [nI_1, nI_add, pk_rem (by omega) (by omega) (by omega)]
  refine ⟨a, (a + 1 + k) % n, nI k, ha, Nat.mod_lt _ (by omega), ?_, ?_, ?_, a2, ?_, e⟩
  · intro z
    by_cases q : a + 1 + k < n
    · rw [Nat.mod_eq_of_lt q] at z; omega
    · rw [Nat.mod_eq_sub_mod (by omega), Nat.mod_eq_of_lt (by omega)] at z; omega
  · unfold M_X5_giver
    rw [a1, bnd1_some]
  · unfold M_X5_taker
    rw [if_pos (show (2 : Int32) ≤ nI n from (nI_leI (a := 2) (by decide) (by omega)).mpr h2), nI_pred1 (by omega), k1, bnd1_some, chk_pos (nI_ne0 (by omega) (by omega)), e]
  · rw [nI_pred1 (by omega)]
    exact k2
theorem Mid.tick {T : Td} {g0 g : Gs} {σ1 τ0 σ τ : Wd} (h : Mid T g0 σ1 τ0 g σ τ) : Mid T g0 σ1 τ0 (uG g 3 0 0 (gC g + 1)) (uL σ 29 4 (lN (gC g + 1))) (uI τ 26 3 (nI (gC g + 1))) := by
  have hI := h.2.2.2.2.2.2.1
  have hH := hI.1.2.2.2.1
  have hW := hI.1.1
  have hO := hI.1.2.1
  refine h.up ?_ ?_ ?_ ?_ ?_ rfl rfl (fun q => q)
  · exact ⟨by omega, by omega, by omega, by omega, fun _ => rfl, by omega, by intro k hk e; omega, fun c hc => ⟨by omega, by omega, by omega, by omega, by omega, by omega⟩, fun s' hs' => ⟨by omega, by omega, by omega, fun o ho => ⟨by omega, by omega⟩⟩⟩
  · intro j x hj q
    obtain ⟨q1, q2, q3, q4, q5, q6⟩ := q
    exact ⟨q1, q2, q3, q4, fun e => absurd e hj, q6⟩
  · exact ⟨by omega, by omega, by omega, fun _ => rfl, by omega, by intro k hk e; omega, fun c hc => ⟨by omega, fun i hi e => by omega⟩, fun s' hs' => ⟨by omega, by omega, by omega, fun o ho => ⟨by omega, by omega⟩⟩, fun w hw => ⟨by omega, by omega, by omega, by omega, by omega⟩, fun i hi => ⟨by omega, by omega⟩, fun c w hc hw e => by omega⟩
  · intro j x hj q
    obtain ⟨q1, q2, q3, q4, q5⟩ := q
    exact ⟨q1, q2, q3, fun e => absurd e hj, q5⟩
  · exact hI
theorem Mid.chance {T : Td} {t l : Nat} {g0 g : Gs} {σ1 τ0 σ τ : Wd} {S : Int32} (h : Mid T g0 σ1 τ0 g σ τ) (hT : RText T t l σ1 τ0) (hS : gI τ0 0 43 = S) : ∃ g' σ' τ', M_X9_meetsByChance τ = some τ' ∧ Mid T g0 σ1 τ0 g' σ' τ' ∧ gC g' = gC g + 1 ∧ (tN T ≤ 1 → g' = uG g 3 0 0 (gC g + 1)) ∧ (2 ≤ tN T → ∃ a b, a < tN T ∧ b < tN T ∧ a ≠ b ∧ M_X5_giver (nI (tN T)) S (nI (gC g)) = some (nI a) ∧ M_X5_taker (nI a) (nI (tN T)) S (nI (gC g)) = some (nI b) ∧ MeetS (uG g 3 0 0 (gC g + 1)) a b g') ∧ (S = nI (tS T) → ∀ v1 v2 : Int32, ¬ v1 ≤ v2 → M_X8_chance_L29 v1 v2 σ = some (.inl (v2 + 1, σ'))) := by
  have hm := h.tick
  have hT2 := RText_mid hm hT
  obtain ⟨ht, h4, hl, h18, hTI, hTC, hTM⟩ := gR_mid hT2
  have hn := hTI.2.1
  have hn1 := hTI.1
  have eC : gL σ 29 4 = lN (gC g) := h.2.2.2.1.1.2.2.2.2.1
  have eM : gI τ 26 3 = nI (gC g) := h.2.2.2.2.2.1.1.2.2.2.1
  have hadd : M_X1_addChance σ = some (uL σ 29 4 (lN (gC g + 1))) := by
    unfold M_X1_addChance
    rw [chk_pos (by decide), chk_pos (by decide), show ix (4 : Int32) = 4 from rfl, eC, lN_1]
    rfl
  have hch : M_X1_chances σ = some (nI (gC g)) := c_chances eC
  have e9 : M_X9_meetsByChance τ = if nI (tN T) ≠ 1 then (bnd1 (M_X9_lotOf (uI τ 26 3 (nI (gC g + 1))) (2 * nI (gC g)) (nI (tN T))) fun r38 => bnd1 (M_X9_lotOf (uI τ 26 3 (nI (gC g + 1))) (2 * nI (gC g) + 1) (nI (tN T) - 1)) fun r54 => chk (¬ nI (tN T) = 0) (bnd2 (M_X9_meets (uI τ 26 3 (nI (gC g + 1))) r38 (((r38 + 1) + r54) - ((r38 + 1) + r54) / nI (tN T) * nI (tN T))) fun r66 s_66 => some s_66)) else some (uI τ 26 3 (nI (gC g + 1))) := by
    unfold M_X9_meetsByChance
    rw [chk_pos (by decide), show ix (3 : Int32) = 3 from rfl, eM]
    simp only [lt_eq]
    rw [chk_pos (by decide), chk_pos (by decide), nI_1, h18, chk_pos ((ib_nI (by omega)).mpr hl), ix_nI (by omega), hTM.1.1]
  have e8 : ∀ v1 v2 : Int32, ¬ v1 ≤ v2 → M_X8_chance_L29 v1 v2 σ = if nI (tN T) ≤ 1 then some (.inl (v2 + 1, uL σ 29 4 (lN (gC g + 1)))) else (bnd1 (M_X5_giver (nI (tN T)) (nI (tS T)) (nI (gC g))) fun r75 => bnd1 (M_X5_taker r75 (nI (tN T)) (nI (tS T)) (nI (gC g))) fun r103 => bnd2 (M_X1_holdMeeting (uL σ 29 4 (lN (gC g + 1))) r75 r103) fun r106 s_106 => some (.inl (v2 + 1, s_106))) := fun v1 v2 hv => by
    unfold M_X8_chance_L29
    rw [if_neg hv, hch, bnd1_some, hadd, bnd1_some, h4, hTC.1.1, hTC.1.2.2.1]
    simp only [lt_eq, chk_pos ht]
  by_cases h2 : 2 ≤ tN T
  · have h43 : gI (uI τ 26 3 (nI (gC g + 1))) 0 43 = S := hm.2.2.1.trans hS
    obtain ⟨a, b, r, ha, hb, hab, w1, w2, w3, w4, w5⟩ := who_meets (m := nI (gC g)) h43 h2 hn
    obtain ⟨s, g', σ', τ', b1, b2, b3, b4, b5⟩ := hm.meet hT ha hb hab
    refine ⟨g', σ', τ', ?_, b4, b5.2.2.1.trans (uG_s (g := g) (t := 3)), fun z => by omega, fun _ => ⟨a, b, ha, hb, hab, w1, w2, b5⟩, fun hSS v1 v2 hv => ?_⟩
    · rw [e9, if_pos (show nI (tN T) ≠ 1 from fun z => by have := (nI_eq (b := 1) (by omega) (by decide)).mp z; omega), w3, bnd1_some, w4, bnd1_some, chk_pos (nI_ne0 (by omega) (by omega)), w5, b3, bnd2_some]
    · subst hSS
      rw [e8 v1 v2 hv, if_neg (fun z => by have := (nI_leI (b := 1) (by omega) (by decide)).mp z; omega), w1, bnd1_some, w2, bnd1_some, b2, bnd2_some]
  · have h1 : tN T = 1 := by omega
    refine ⟨_, _, _, ?_, hm, uG_s, fun _ => rfl, fun z => absurd z h2, fun _ v1 v2 hv => ?_⟩
    · rw [e9, h1, if_neg (show ¬ nI 1 ≠ 1 by decide)]
    · rw [e8 v1 v2 hv, h1, if_pos (show nI 1 ≤ 1 by decide)]
theorem in60_t {n : Nat} (h : n ≤ 60) : M_X9_isLong (nI n) = some 1 := by
  unfold M_X9_isLong
  rw [show (60 : Int32) = nI 60 from rfl, m_inl_t h (by decide), bnd1_some, chk_pos zb1]
theorem in60_f {v : Int32} (h : v < 0 ∨ nI 61 ≤ v) : M_X9_isLong v = some 0 := by
  unfold M_X9_isLong
  rw [show (60 : Int32) = nI 60 from rfl, m_inl_f h (by decide), bnd1_some, chk_pos zb0]
theorem st_10 : Sp_10 Rel := by
  intro σ τ h a
  have h0 := h
  obtain ⟨T, t, l, g, hT, ⟨hC, hA, hM, hI⟩, σ1, τ1, hk, hc, ⟨hKM, hS⟩, hT1, hm, hend⟩ := lay_start h
  unfold M_X8_chance M_X9_chance
  rcases bd_cases a (n := 61) (by decide) with ⟨n, hn, rfl⟩ | ha
  · rw [in60_t (by omega), bnd1_some, if_pos n01, if_neg (nI_n0 (by omega)), if_pos (show nI n ≤ 60 from (nI_leI (b := 60) (by omega) (by decide)).mpr (by omega))]
    by_cases hn0 : n = 0
    · subst hn0
      rw [if_pos (show nI 0 ≤ 0 by decide), if_neg (show ¬ nI 0 ≠ 0 by decide)]
      have e8 : M_X8_chance_J27 σ (nI 0) = some (nI (gC g), σ) := by
        unfold M_X8_chance_J27
        obtain ⟨m, hmm⟩ : ∃ m, FU = m + 1 := ⟨999999, by unfold FU; omega⟩
        have e : M_X8_chance_L29 (nI 0) 0 σ = some (.inr σ) := by
          unfold M_X8_chance_L29
          rw [if_pos (show nI 0 ≤ 0 by decide)]
        rw [hmm, it_x (x := σ) (by exact e), bnd1_some]
        show bnd1 (M_X1_chances σ) (fun r => some (r, σ)) = _
        rw [c_chances hC.1.2.2.2.2.1, bnd1_some]
      rw [e8, chk_pos (by decide)]
      exact ⟨nI (gC g), σ, τ, rfl, congrArg (fun x => some (x, τ)) hM.1.2.2.2.1, h0⟩
    · rw [if_neg (show ¬ nI n ≤ 0 from fun z => by have := (nI_leI (b := 0) (by omega) (by decide)).mp z; omega), if_pos (show nI n ≠ 0 from nI_ne0 (by omega) (by omega)), hk, bnd1_some, hc, bnd1_some]
      have run : ∀ (d i : Nat) (g2 : Gs) (σ2 τ2 : Wd) (k : Nat), i + d = n → d < k → Mid T g σ1 τ1 g2 σ2 τ2 → ∃ g3 σ3 τ3, iter (fun s : Int32 × Wd => M_X8_chance_L29 (nI n) s.1 s.2) k (nI i, σ2) = some σ3 ∧ iter (fun s : Int32 × Wd => M_X9_chance_L26 (nI n) s.1 s.2) k (nI i, τ2) = some τ3 ∧ Mid T g σ1 τ1 g3 σ3 τ3 := by
        intro d
        induction d with
        | zero =>
          intro i g2 σ2 τ2 k hi hk2 hm2
          obtain ⟨m, rfl⟩ : ∃ m, k = m + 1 := ⟨k - 1, by omega⟩
          have hle : nI n ≤ nI i := (nI_leI (by omega) (by omega)).mpr (by omega)
          refine ⟨g2, σ2, τ2, it_x ?_, it_x ?_, hm2⟩
          · show M_X8_chance_L29 (nI n) (nI i) σ2 = _
            unfold M_X8_chance_L29
            rw [if_pos hle]
          · show M_X9_chance_L26 (nI n) (nI i) τ2 = _
            unfold M_X9_chance_L26
            rw [if_pos hle]
        | succ d ih =>
          intro i g2 σ2 τ2 k hi hk2 hm2
          obtain ⟨m, rfl⟩ : ∃ m, k = m + 1 := ⟨k - 1, by omega⟩
          have hle : ¬ nI n ≤ nI i := fun z => by have := (nI_leI (by omega) (by omega)).mp z; omega
          obtain ⟨g3, σ3, τ3, c1, c2, c3, c4, c5, c6⟩ := hm2.chance hT1 hS
          obtain ⟨g4, σ4, τ4, d1, d2, d3⟩ := ih (i + 1) g3 σ3 τ3 m (by omega) (by omega) c2
          refine ⟨g4, σ4, τ4, (it_s ?_).trans d1, (it_s ?_).trans d2, d3⟩
          · show M_X8_chance_L29 (nI n) (nI i) σ2 = _
            rw [c6 rfl _ _ hle, nI_1]
          · show M_X9_chance_L26 (nI n) (nI i) τ2 = _
            unfold M_X9_chance_L26
            rw [if_neg hle, c1, bnd1_some, nI_1]
            rfl
      obtain ⟨g3, σ3, τ3, r1, r2, r3⟩ := run n 0 g σ1 τ1 FU (by omega) (FU_big (by omega)) hm
      obtain ⟨τ4, z1, z2⟩ := hend _ _ _ r3
      refine ⟨nI (gC g3), σ3, τ4, ?_, ?_, z2⟩
      · unfold M_X8_chance_J27
        rw [show ((0 : Int32), σ1) = (nI 0, σ1) from rfl, r1, bnd1_some]
        show bnd1 (M_X1_chances σ3) (fun r => some (r, σ3)) = _
        rw [c_chances r3.2.2.2.1.1.2.2.2.2.1, bnd1_some]
      · rw [show ((0 : Int32), τ1) = (nI 0, τ1) from rfl, r2, bnd1_some]
        show bnd1 (M_X9_records τ3) _ = _
        rw [z1, bnd1_some, chk_pos (by decide)]
        obtain ⟨T', t', l', g', q1, q2, q3, q4, q5⟩ := z2.T
        have e1 : lN (gC g') = lN (gC g3) := q2.1.2.2.2.2.1.symm.trans r3.2.2.2.1.1.2.2.2.2.1
        have e2 : gI τ4 25 3 = nI (gC g') := q4.1.2.2.2.1
        show some (gI τ4 25 3, τ4) = _
        rw [e2, ← lN_i, e1, lN_i]
  · rw [in60_f ha, bnd1_some, if_neg z00]
    by_cases h1 : a < 0
    · rw [if_pos h1]
      exact ⟨_, _, _, rfl, rfl, h0⟩
    · rw [if_neg h1, if_neg (show ¬ a ≤ 60 from nI_le_not (m := 60) (nI_lt0 ha h1) (by decide))]
      exact ⟨_, _, _, rfl, rfl, h0⟩
