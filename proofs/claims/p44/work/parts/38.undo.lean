/-! undo, hold, restore -/
theorem rL_at {σ : Wd} {c : Nat} {f : Nat → Int64} : (rL σ c f).2.1 c = f := by unfold rL; simp
theorem va_cpy60 {f g : Nat → Int32} {k : Nat} (h : k < 60) : va_cpy f g (ix (0 : Int32)) (ix (0 : Int32)) (ix (60 : Int32)) k = f k := by
  rw [show ix (0 : Int32) = 0 from rfl, show ix (60 : Int32) = 60 from rfl]
  exact cpy_at h
theorem va_cpy96 {f g : Nat → Int64} {k : Nat} (h : k < 96) : va_cpy f g (ix (0 : Int32)) (ix (0 : Int32)) (ix (96 : Int32)) k = f k := by
  rw [show ix (0 : Int32) = 0 from rfl, show ix (96 : Int32) = 96 from rfl]
  exact cpyL_at h
theorem c_take {σ : Wd} {g0 g1 : Nat} (h : g1 + 6 < g0 ∨ g0 + 6 < g1) : ∃ σ', M_X1_takeOver σ g0 g1 = some σ' ∧ (∀ c, c ≠ g0 + 1 → σ'.2.1 c = σ.2.1 c) ∧ (∀ c, c < g0 + 2 ∨ g0 + 6 < c → σ'.1 c = σ.1 c) ∧ σ'.2.2 = σ.2.2 ∧ (∀ k, k < 96 → σ'.2.1 (g0 + 1) k = σ.2.1 (g1 + 1) k) ∧ ∀ j k, 2 ≤ j → j ≤ 6 → k < 60 → gI σ' (g0 + j) k = gI σ (g1 + j) k := by
  have h96 : ¬ (0 : Int32) < 0 ∧ ¬ (0 : Int32) < 0 ∧ ¬ (96 : Int32) < 0 ∧ ix (0 : Int32) + ix (96 : Int32) ≤ 96 ∧ ix (0 : Int32) + ix (96 : Int32) ≤ 96 := by decide
  have h60 : ¬ (0 : Int32) < 0 ∧ ¬ (0 : Int32) < 0 ∧ ¬ (60 : Int32) < 0 ∧ ix (0 : Int32) + ix (60 : Int32) ≤ 60 ∧ ix (0 : Int32) + ix (60 : Int32) ≤ 60 := by decide
  unfold M_X1_takeOver
  simp only [lt_eq, chk_pos h96, chk_pos h60]
  refine ⟨_, rfl, fun c hc => ?_, fun c hc => ?_, rfl, fun k hk => ?_, fun j k h1 h2 hk => ?_⟩
  · unfold rI rL; simp [hc]
  · have a2 : c ≠ g0 + 2 := by omega
    have a3 : c ≠ g0 + 3 := by omega
    have a4 : c ≠ g0 + 4 := by omega
    have a5 : c ≠ g0 + 5 := by omega
    have a6 : c ≠ g0 + 6 := by omega
    unfold rI rL; simp [a2, a3, a4, a5, a6]
  · exact (congrFun (rL_at (σ := σ) (c := g0 + 1)) k).trans (va_cpy96 hk)
  · have b : ∀ i m, 2 ≤ i → i ≤ 6 → 2 ≤ m → m ≤ 6 → g1 + i ≠ g0 + m := fun i m q1 q2 q3 q4 => by omega
    rcases (show j = 2 ∨ j = 3 ∨ j = 4 ∨ j = 5 ∨ j = 6 by omega) with rfl | rfl | rfl | rfl | rfl
    · simp only [gI_rI, Nat.add_left_cancel_iff, Nat.reduceEqDiff, if_false, if_true]
      rw [va_cpy60 hk]
      rfl
    · simp only [gI_rI, Nat.add_left_cancel_iff, Nat.reduceEqDiff, if_false, if_true]
      rw [va_cpy60 hk]
      unfold rI rL; simp [gI, b 3 2]
    · simp only [gI_rI, Nat.add_left_cancel_iff, Nat.reduceEqDiff, if_false, if_true]
      rw [va_cpy60 hk]
      unfold rI rL; simp [gI, b 4 2, b 4 3]
    · simp only [gI_rI, Nat.add_left_cancel_iff, Nat.reduceEqDiff, if_false, if_true]
      rw [va_cpy60 hk]
      unfold rI rL; simp [gI, b 5 2, b 5 3, b 5 4]
    · simp only [gI_rI, Nat.add_left_cancel_iff, Nat.reduceEqDiff, if_false, if_true]
      rw [va_cpy60 hk]
      unfold rI rL; simp [gI, b 6 2, b 6 3, b 6 4, b 6 5]
/-- the arrays of one object taken over from another -/
theorem CA_take {g : Gs} {a b n m : Nat} {σ σ' : Wd} (hI : Inv n m g) (h : ∀ j k, 2 ≤ j → j ≤ 6 → k < 60 → gI σ' (b + j) k = gI σ (a + j) k) (hA : CA g a σ) : CA g b σ' := by
  have hW := hI.1.1
  have hO := hI.1.2.1
  refine ⟨fun w hw => ?_, fun i hi => by rw [h 6 i (by decide) (by decide) (by omega)]; exact hA.2 i hi⟩
  rw [h 2 w (by decide) (by decide) (by omega), h 3 w (by decide) (by decide) (by omega), h 4 w (by decide) (by decide) (by omega), h 5 w (by decide) (by decide) (by omega)]
  exact hA.1 w hw
theorem c_bring {σ : Wd} {un nx : Nat} (h0 : 0 < un) (hu : un ≤ 40) (hn : nx < 40) (h2 : gI σ 66 2 = nI un) (h1 : gI σ 66 1 = nI nx) : ∃ σ', M_X2_bringBack σ = some (1, σ') ∧ (∀ c, c ≠ 29 → σ'.2.1 c = σ.2.1 c) ∧ (∀ c, c ≠ 66 → σ'.1 c = σ.1 c) ∧ σ'.2.2 = σ.2.2 ∧ gI σ' 66 1 = nI ((nx + 39) % 40) ∧ gI σ' 66 2 = nI (un - 1) ∧ ∀ k, k < 96 → σ'.2.1 29 k = σ.2.1 (68 + (nx + 39) % 40) k := by
  have h96 : ¬ (0 : Int32) < 0 ∧ ¬ (0 : Int32) < 0 ∧ ¬ (96 : Int32) < 0 ∧ ix (0 : Int32) + ix (96 : Int32) ≤ 96 ∧ ix (0 : Int32) + ix (96 : Int32) ≤ 96 := by decide
  have hm := Nat.mod_lt (nx + 39) (show 40 > 0 by decide)
  have e : nI nx + 40 - 1 - (nI nx + 40 - 1) / 40 * 40 = nI ((nx + 39) % 40) := by
    rw [show (40 : Int32) = nI 40 from rfl, show (1 : Int32) = nI 1 from rfl, nI_add, pk_sub (by omega), pk_rem (by omega) (by decide) (by decide)]
    rfl
  unfold M_X2_bringBack
  rw [h2, if_pos (by rw [show (0 : Int32) = nI 0 from rfl, nI_ne (by omega) (by omega)]; omega), chk_pos (by decide)]
  simp only [lt_eq]
  rw [h1, e]
  have e1 : gI (uI σ 66 1 (nI ((nx + 39) % 40))) 66 2 = nI un := by rw [gI_uI, if_neg (by omega)]; exact h2
  rw [e1, nI_pred1 h0]
  have e2 : gI (uI (uI σ 66 1 (nI ((nx + 39) % 40))) 66 2 (nI (un - 1))) 66 1 = nI ((nx + 39) % 40) := by simp only [gI_uI, gI_rI, gI_uL, gI_rL, gI_uR, gL_uL, gL_rL, gL_uI, gL_rI, gL_uR, gR_uI, gR_rI, gR_uL, gR_rL, gR_uR]; simp
  rw [e2, chk_pos ((ib_nI (by omega)).mpr hm), chk_pos h96, ix_nI (by omega)]
  refine ⟨_, rfl, fun c hc => ?_, fun c hc => ?_, rfl, ?_, ?_, fun k hk => ?_⟩
  · unfold rL uI rI; simp [hc]
  · unfold rL uI rI; simp [hc]
  · exact e2
  · simp only [gI_uI, gI_rI, gI_uL, gI_rL, gI_uR, gL_uL, gL_rL, gL_uI, gL_rI, gL_uR, gR_uI, gR_rI, gR_uL, gR_rL, gR_uR]; simp
  · rw [rL_at, va_cpy96 hk]
    rfl
theorem m_undo {τ : Wd} {un : Nat} (h0 : 0 < un) (hu : un ≤ 40) (h51 : gI τ 0 51 = nI un) : M_X9_undo τ = some (1, rI (uI τ 0 51 (nI (un - 1))) 25 (va_cpy (τ.1 32) (τ.1 25) (770 * (un - 1)) 0 770)) := by
  have e : gI (uI τ 0 51 (nI (un - 1))) 0 51 = nI (un - 1) := by rw [gI_uI, if_pos ⟨rfl, rfl⟩]
  have h := cp_loop (σ0 := uI τ 0 51 (nI (un - 1))) (a := 32) (b := 25) (sp := 770 * (un - 1)) (dp := 0) (N := 770) (body := fun s : Int32 × Wd => M_X9_undo_L21 s.1 s.2) (Or.inl (by decide)) (by decide) (fun i s hi hc _ => by
    show M_X9_undo_L21 (nI i) s = _
    unfold M_X9_undo_L21
    rw [show gI s 0 51 = nI (un - 1) from (gI_2 (hc 0 (by decide))).trans e]
    simp (disch := omega) only [i_lit, pk_mul, nI_add, ib_nI, ix_nI, nI_leI, nI_ltI, nI_eq, ne_eq, bnd1_some, bnd2_some, lt_eq]
    by_cases h : 770 ≤ i
    · rw [if_pos h, if_pos h]
    · rw [if_neg h, if_neg h, chk_pos (by omega), chk_pos (by omega), Nat.zero_add])
  unfold M_X9_undo
  rw [h51, if_pos (by rw [show (0 : Int32) = nI 0 from rfl, nI_ne (by omega) (by omega)]; omega)]
  simp only [lt_eq]
  rw [nI_pred1 h0, show ((0 : Int32), uI τ 0 51 (nI (un - 1))) = (nI 0, uI τ 0 51 (nI (un - 1))) from rfl, h]
  rfl
theorem st_11 : Sp_11 Rel := by
  intro σ τ h
  have h0 := h
  obtain ⟨T, t, l, tp, un, nx, g, hs, sl, hl, h1, h2, h3, h4, ⟨u1, u2, u3, u4, u5, u6⟩, h6, h7⟩ := Rel_iff.mp h
  unfold M_X8_undo
  by_cases hz : un = 0
  · subst hz
    unfold M_X2_bringBack M_X9_undo
    rw [u3, u5, if_neg (by decide), if_neg (by decide)]
    exact ⟨0, σ, τ, by rw [bnd2_some, chk_pos (Or.inl rfl)], rfl, h0⟩
  · obtain ⟨σ', p1, p2, p3, p4, p5, p6, p7⟩ := c_bring (by omega) u1 u2 u3 u4
    have q := m_undo (τ := τ) (by omega) u1 u5
    refine ⟨1, σ', _, by rw [p1, bnd2_some, chk_pos (Or.inr rfl)], q, ?_⟩
    obtain ⟨v1, v2, v3, v4, v5, v6, v7⟩ := u6 (un - 1) (by omega)
    have hm := Nat.mod_lt (nx + 39) (show 40 > 0 by decide)
    have c1 : ∀ c, c ≠ 0 → c ≠ 25 → (rI (uI τ 0 51 (nI (un - 1))) 25 (va_cpy (τ.1 32) (τ.1 25) (770 * (un - 1)) 0 770)).1 c = τ.1 c := fun c a b => by unfold uI rI; simp [a, b]
    have c2 : ∀ k, k ≠ 51 → gI (rI (uI τ 0 51 (nI (un - 1))) 25 (va_cpy (τ.1 32) (τ.1 25) (770 * (un - 1)) 0 770)) 0 k = gI τ 0 k := fun k hk => by simp only [gI_uI, gI_rI, gI_uL, gI_rL, gI_uR, gL_uL, gL_rL, gL_uI, gL_rI, gL_uR, gR_uI, gR_rI, gR_uL, gR_rL, gR_uR]; simp [hk]
    refine Rel_iff.mpr ⟨T, t, l, tp, un - 1, (nx + 39) % 40, hs (un - 1), hs, sl, hl, ?_, ?_, RText_eq (by rw [p4]) (fun c a b => p3 c (by omega)) (c2 18 (by decide)) (fun c a b => c1 c (by omega) (by omega)) h3, ⟨?_, ?_, ?_, v4⟩, ⟨by omega, hm, p6, p5, ?_, fun u hu => ?_⟩, RHeld_eq (p3 65 (by decide)) (fun c a b => ⟨p3 c (by omega), p2 c (by omega)⟩) (c1 35 (by decide) (by decide)) (c1 36 (by decide) (by decide)) h6, RKeys_eq rfl h7⟩
    · obtain ⟨a, b, c, d⟩ := h1
      refine ⟨a, (congrFun (p3 0 (by decide)) 1).trans b, (c2 2 (by decide)).trans c, fun i hi => ?_⟩
      rw [show gI σ' 1 i = gI σ 1 i from congrFun (p3 1 (by decide)) i, show gI (rI (uI τ 0 51 (nI (un - 1))) 25 (va_cpy (τ.1 32) (τ.1 25) (770 * (un - 1)) 0 770)) 1 i = gI τ 1 i from congrFun (c1 1 (by decide) (by decide)) i]
      exact d i hi
    · exact (congrFun (p3 0 (by decide)) 2).trans (h2.trans (c2 17 (by decide)).symm)
    · refine CR_cong v4 (fun k hk => p7 k hk) ?_
      rw [show (nx + 39) % 40 = (nx + 40 - un + (un - 1)) % 40 by congr 1; omega]
      exact v1
    · exact CA_eq (fun j a b => p3 _ (by omega)) v2
    · refine MR_cong v4 (fun k hk => ?_) v3
      rw [rI_at]
      have := cpyN_at (f := τ.1 32) (g := τ.1 25) (sp := 770 * (un - 1)) (dp := 0) (n := 770) hk
      rwa [Nat.zero_add] at this
    · simp only [gI_uI, gI_rI, gI_uL, gI_rL, gI_uR, gL_uL, gL_rL, gL_uI, gL_rI, gL_uR, gR_uI, gR_rI, gR_uL, gR_rL, gR_uR]; simp
    · obtain ⟨w1, w2, w3, w4, w5, w6, w7⟩ := u6 u (by omega)
      have hm2 := Nat.mod_lt (nx + 40 - un + u) (show 40 > 0 by decide)
      refine ⟨?_, CA_eq (fun j a b => p3 _ (by omega)) w2, ?_, w4, (w7 (un - 1) (by omega) (by omega)).1, (w7 (un - 1) (by omega) (by omega)).2, fun v a b => w7 v a (by omega)⟩
      · rw [show ((nx + 39) % 40 + 40 - (un - 1) + u) % 40 = (nx + 40 - un + u) % 40 by omega, p2 _ (by omega)]
        exact w1
      · rw [show gI (rI (uI τ 0 51 (nI (un - 1))) 25 (va_cpy (τ.1 32) (τ.1 25) (770 * (un - 1)) 0 770)) 32 = gI τ 32 from c1 32 (by decide) (by decide)]
        exact w3
theorem m_hold {τ : Wd} {k : Nat} (hk : k < 3) : M_X9_hold τ (nI k) = some (1, rI (uI τ 35 k 1) 36 (va_cpy (τ.1 25) (τ.1 36) 0 (770 * k) 770)) := by
  have h := cp_loop (σ0 := uI τ 35 k 1) (a := 25) (b := 36) (sp := 0) (dp := 770 * k) (N := 770) (body := fun s : Int32 × Wd => M_X9_hold_L20 (nI k) s.1 s.2) (Or.inl (by decide)) (by decide) (fun i s hi hc _ => by
    show M_X9_hold_L20 (nI k) (nI i) s = _
    unfold M_X9_hold_L20
    simp (disch := omega) only [i_lit, pk_mul, nI_add, ib_nI, ix_nI, nI_leI, nI_ltI, nI_eq, ne_eq, bnd1_some, bnd2_some, lt_eq]
    by_cases h : 770 ≤ i
    · rw [if_pos h, if_pos h]
    · rw [if_neg h, if_neg h, chk_pos (by omega), chk_pos (by omega), Nat.zero_add])
  unfold M_X9_hold
  rw [show (2 : Int32) = nI 2 from rfl, m_inl_t (by omega) (by decide), bnd1_some, if_pos (by decide), chk_pos ((ib_nI (by omega)).mpr hk), ix_nI (by omega), show vp_nar .boolean (1 : Int32) = 1 from rfl]
  simp only [lt_eq]
  rw [show ((0 : Int32), uI τ 35 k 1) = (nI 0, uI τ 35 k 1) from rfl, h]
  rfl
theorem m_restore {τ : Wd} {k : Nat} (hk : k < 3) (h35 : gI τ 35 k = 1) : M_X9_restore τ (nI k) = some (1, uI (rI τ 25 (va_cpy (τ.1 36) (τ.1 25) (770 * k) 0 770)) 0 51 0) := by
  have h := cp_loop (σ0 := τ) (a := 36) (b := 25) (sp := 770 * k) (dp := 0) (N := 770) (body := fun s : Int32 × Wd => M_X9_restore_L22 (nI k) s.1 s.2) (Or.inl (by decide)) (by decide) (fun i s hi hc _ => by
    show M_X9_restore_L22 (nI k) (nI i) s = _
    unfold M_X9_restore_L22
    simp (disch := omega) only [i_lit, pk_mul, nI_add, ib_nI, ix_nI, nI_leI, nI_ltI, nI_eq, ne_eq, bnd1_some, bnd2_some, lt_eq]
    by_cases h : 770 ≤ i
    · rw [if_pos h, if_pos h]
    · rw [if_neg h, if_neg h, chk_pos (by omega), chk_pos (by omega), Nat.zero_add])
  unfold M_X9_restore
  rw [show (2 : Int32) = nI 2 from rfl, m_inl_t (by omega) (by decide), bnd1_some, if_neg (by decide), chk_pos ((ib_nI (by omega)).mpr hk), ix_nI (by omega), h35, if_pos (by decide)]
  rw [show ((0 : Int32), τ) = (nI 0, τ) from rfl, h]
  rfl
theorem st_38 : Sp_38 Rel := by
  intro σ τ h a
  have h0 := h
  rcases bd_cases a (n := 3) (by decide) with ⟨k, hk, rfl⟩ | ha
  · obtain ⟨T, t, l, tp, un, nx, g, hs, sl, hl, h1, h2, h3, ⟨n1, n2, n3, n4⟩, h5, h6, h7⟩ := Rel_iff.mp h
    obtain ⟨σ1, p1, p2, p3, p4, p5, p6⟩ := c_take (σ := σ) (g0 := 37 + 9 * k) (g1 := 28) (by omega)
    have e8 : M_X8_hold σ (nI k) = some (1, uI σ1 65 k 1) := by
      unfold M_X8_hold
      rw [c_isSlot_t hk, bnd1_some, if_pos (by decide), chk_pos ((ib_nI (by omega)).mpr hk), ix_nI (by omega), p1, bnd1_some, chk_pos ((ib_nI (by omega)).mpr hk), show vp_nar .boolean (1 : Int32) = 1 from rfl]
      rfl
    refine ⟨1, _, _, e8, m_hold hk, ?_⟩
    have cI : ∀ c, c ≠ 65 → (c < 39 + 9 * k ∨ 43 + 9 * k < c) → (uI σ1 65 k 1).1 c = σ.1 c := fun c a b => by
      have : (uI σ1 65 k 1).1 c = σ1.1 c := by unfold uI rI; simp [a]
      exact this.trans (p3 c (by omega))
    have cL : ∀ c, c ≠ 38 + 9 * k → (uI σ1 65 k 1).2.1 c = σ.2.1 c := fun c a => p2 c (by omega)
    have cM : ∀ c, c ≠ 35 → c ≠ 36 → (rI (uI τ 35 k 1) 36 (va_cpy (τ.1 25) (τ.1 36) 0 (770 * k) 770)).1 c = τ.1 c := fun c a b => by unfold uI rI; simp [a, b]
    have cA : ∀ g', CA g' 28 σ → CA g' 28 (uI σ1 65 k 1) := fun g' q => CA_eq (fun j a b => cI _ (by omega) (by omega)) q
    refine Rel_iff.mpr ⟨T, t, l, tp, un, nx, g, hs, fun j => if j = k then g else sl j, fun j => if j = k then 1 else hl j, ?_, ?_, RText_eq (congrFun p4 0) (fun c a b => cI c (by omega) (by omega)) (congrFun (cM 0 (by decide) (by decide)) 18) (fun c a b => cM c (by omega) (by omega)) h3, ⟨by rw [cL 29 (by omega)]; exact n1, cA _ n2, by rw [cM 25 (by decide) (by decide)]; exact n3, n4⟩, RHist_eq (congrFun (cI 66 (by decide) (by omega)) 1) (congrFun (cI 66 (by decide) (by omega)) 2) (fun c a b => cL c (by omega)) (fun c a b => cI c (by omega) (by omega)) (congrFun (cM 0 (by decide) (by decide)) 51) (cM 32 (by decide) (by decide)) h5, fun j hj => ?_, RKeys_eq rfl h7⟩
    · obtain ⟨a, b, c, d⟩ := h1
      refine ⟨a, (congrFun (cI 0 (by decide) (by omega)) 1).trans b, (congrFun (cM 0 (by decide) (by decide)) 2).trans c, fun i hi => ?_⟩
      rw [show gI (uI σ1 65 k 1) 1 i = gI σ 1 i from congrFun (cI 1 (by decide) (by omega)) i, show gI (rI (uI τ 35 k 1) 36 (va_cpy (τ.1 25) (τ.1 36) 0 (770 * k) 770)) 1 i = gI τ 1 i from congrFun (cM 1 (by decide) (by decide)) i]
      exact d i hi
    · exact (congrFun (cI 0 (by decide) (by omega)) 2).trans (h2.trans (congrFun (cM 0 (by decide) (by decide)) 17).symm)
    · by_cases hj2 : j = k
      · subst hj2
        refine ⟨by simp, by simp only [gI_uI, gI_rI, gI_uL, gI_rL, gI_uR, gL_uL, gL_rL, gL_uI, gL_rI, gL_uR, gR_uI, gR_rI, gR_uL, gR_rL, gR_uR]; simp; rfl, by simp only [gI_uI, gI_rI, gI_uL, gI_rL, gI_uR, gL_uL, gL_rL, gL_uI, gL_rI, gL_uR, gR_uI, gR_rI, gR_uL, gR_rL, gR_uR]; simp; rfl, fun _ => ?_⟩
        simp only [if_true]
        refine ⟨?_, ?_, ?_, n4⟩
        · exact CR_cong n4 (fun i hi => by rw [show 38 + 9 * j = 37 + 9 * j + 1 by omega]; exact p5 i hi) n1
        · refine CA_take n4 (fun i w a b c => ?_) n2
          rw [gI_uI, if_neg (by omega)]
          exact p6 i w a b c
        · refine MR_cong n4 (fun i hi => ?_) n3
          rw [gI_rI, if_pos rfl, cpyN_at hi, Nat.zero_add]
      · obtain ⟨q1, q2, q3, q4⟩ := h6 j hj
        simp only [if_neg hj2]
        refine ⟨q1, ?_, ?_, fun hq => ?_⟩
        · rw [gI_uI, if_neg (by omega)]
          exact (congrFun (p3 65 (by omega)) j).trans q2
        · simp only [gI_uI, gI_rI, gI_uL, gI_rL, gI_uR, gL_uL, gL_rL, gL_uI, gL_rI, gL_uR, gR_uI, gR_rI, gR_uL, gR_rL, gR_uR]; simp [hj2]; exact q3
        · obtain ⟨d1, d2, d3, d4⟩ := q4 hq
          refine ⟨by rw [cL _ (by omega)]; exact d1, CA_eq (fun i a b => cI _ (by omega) (by omega)) d2, ?_, d4⟩
          refine MR_cong d4 (fun i hi => ?_) d3
          rw [gI_rI, if_pos rfl, cpyN_out (by omega)]
          rfl
  · refine ⟨0, σ, τ, ?_, ?_, h0⟩
    · unfold M_X8_hold; rw [c_isSlot_f ha, bnd1_some, if_neg (by decide)]
    · unfold M_X9_hold; rw [show (2 : Int32) = nI 2 from rfl, m_inl_f ha (by decide), bnd1_some, if_neg (by decide)]
theorem st_39 : Sp_39 Rel := by
  intro σ τ h a
  have h0 := h
  rcases bd_cases a (n := 3) (by decide) with ⟨k, hk, rfl⟩ | ha
  · obtain ⟨T, t, l, tp, un, nx, g, hs, sl, hl, h1, h2, h3, ⟨n1, n2, n3, n4⟩, ⟨u1, u2, u3, u4, u5, u6⟩, h6, h7⟩ := Rel_iff.mp h
    obtain ⟨q1, q2, q3, q4⟩ := h6 k hk
    by_cases hq : hl k = 1
    · obtain ⟨d1, d2, d3, d4⟩ := q4 hq
      obtain ⟨σ1, p1, p2, p3, p4, p5, p6⟩ := c_take (σ := σ) (g0 := 28) (g1 := 37 + 9 * k) (by omega)
      have e8 : M_X8_restore σ (nI k) = some (1, uI σ1 66 2 0) := by
        unfold M_X8_restore M_X2_forget
        rw [c_isSlot_t hk, bnd1_some, if_neg (by decide), chk_pos ((ib_nI (by omega)).mpr hk), ix_nI (by omega), q2, hq, if_pos (by decide), chk_pos ((ib_nI (by omega)).mpr hk), p1, bnd1_some]
        rfl
      refine ⟨1, _, _, e8, m_restore hk (by rw [q3, hq]; rfl), ?_⟩
      have cI : ∀ c, c ≠ 66 → (c < 30 ∨ 34 < c) → (uI σ1 66 2 0).1 c = σ.1 c := fun c a b => by
        have : (uI σ1 66 2 0).1 c = σ1.1 c := by unfold uI rI; simp [a]
        exact this.trans (p3 c (by omega))
      have cL : ∀ c, c ≠ 29 → (uI σ1 66 2 0).2.1 c = σ.2.1 c := fun c a => p2 c (by omega)
      have cM : ∀ c, c ≠ 0 → c ≠ 25 → (uI (rI τ 25 (va_cpy (τ.1 36) (τ.1 25) (770 * k) 0 770)) 0 51 0).1 c = τ.1 c := fun c a b => by unfold uI rI; simp [a, b]
      have cO : ∀ j, j ≠ 51 → gI (uI (rI τ 25 (va_cpy (τ.1 36) (τ.1 25) (770 * k) 0 770)) 0 51 0) 0 j = gI τ 0 j := fun j hj => by simp only [gI_uI, gI_rI, gI_uL, gI_rL, gI_uR, gL_uL, gL_rL, gL_uI, gL_rI, gL_uR, gR_uI, gR_rI, gR_uL, gR_rL, gR_uR]; simp [hj]
      refine Rel_iff.mpr ⟨T, t, l, tp, 0, nx, sl k, hs, sl, hl, ?_, ?_, RText_eq (congrFun p4 0) (fun c a b => cI c (by omega) (by omega)) (cO 18 (by decide)) (fun c a b => cM c (by omega) (by omega)) h3, ⟨?_, ?_, ?_, d4⟩, ⟨by decide, u2, by simp only [gI_uI, gI_rI, gI_uL, gI_rL, gI_uR, gL_uL, gL_rL, gL_uI, gL_rI, gL_uR, gR_uI, gR_rI, gR_uL, gR_rL, gR_uR]; simp; rfl, ?_, by simp only [gI_uI, gI_rI, gI_uL, gI_rL, gI_uR, gL_uL, gL_rL, gL_uI, gL_rI, gL_uR, gR_uI, gR_rI, gR_uL, gR_rL, gR_uR]; simp; rfl, fun u hu => absurd hu (by omega)⟩, RHeld_eq (cI 65 (by decide) (by omega)) (fun c a b => ⟨cI c (by omega) (by omega), cL c (by omega)⟩) (cM 35 (by decide) (by decide)) (cM 36 (by decide) (by decide)) h6, RKeys_eq rfl h7⟩
      · obtain ⟨a, b, c, d⟩ := h1
        refine ⟨a, (congrFun (cI 0 (by decide) (by omega)) 1).trans b, (cO 2 (by decide)).trans c, fun i hi => ?_⟩
        rw [show gI (uI σ1 66 2 0) 1 i = gI σ 1 i from congrFun (cI 1 (by decide) (by omega)) i, show gI (uI (rI τ 25 (va_cpy (τ.1 36) (τ.1 25) (770 * k) 0 770)) 0 51 0) 1 i = gI τ 1 i from congrFun (cM 1 (by decide) (by decide)) i]
        exact d i hi
      · exact (congrFun (cI 0 (by decide) (by omega)) 2).trans (h2.trans (cO 17 (by decide)).symm)
      · exact CR_cong d4 (fun i hi => (p5 i hi).trans (by rw [show 37 + 9 * k + 1 = 38 + 9 * k by omega])) d1
      · refine CA_take d4 (fun i w a b c => ?_) d2
        rw [gI_uI, if_neg (by omega)]
        exact p6 i w a b c
      · refine MR_cong d4 (fun i hi => ?_) d3
        have e1 : (uI (rI τ 25 (va_cpy (τ.1 36) (τ.1 25) (770 * k) 0 770)) 0 51 0).1 25 = va_cpy (τ.1 36) (τ.1 25) (770 * k) 0 770 := by unfold uI rI; simp
        rw [e1]
        have := cpyN_at (f := τ.1 36) (g := τ.1 25) (sp := 770 * k) (dp := 0) (n := 770) hi
        rwa [Nat.zero_add] at this
      · rw [gI_uI, if_neg (by omega)]
        exact (congrFun (p3 66 (by omega)) 1).trans u4
    · have hz : hl k = 0 := by omega
      refine ⟨0, σ, τ, ?_, ?_, h0⟩
      · unfold M_X8_restore
        rw [c_isSlot_t hk, bnd1_some, if_neg (by decide), chk_pos ((ib_nI (by omega)).mpr hk), ix_nI (by omega), q2, hz, if_neg (by decide)]
      · unfold M_X9_restore
        rw [show (2 : Int32) = nI 2 from rfl, m_inl_t (by omega) (by decide), bnd1_some, if_neg (by decide), chk_pos ((ib_nI (by omega)).mpr hk), ix_nI (by omega), q3, hz, if_neg (by decide)]
  · refine ⟨0, σ, τ, ?_, ?_, h0⟩
    · unfold M_X8_restore; rw [c_isSlot_f ha, bnd1_some, if_pos rfl]
    · unfold M_X9_restore; rw [show (2 : Int32) = nI 2 from rfl, m_inl_f ha (by decide), bnd1_some, if_pos rfl]
