/-! the history: keep and bringBack; records and undo -/
theorem CR_cong {n : Nat} {g : Gs} {r r' : Nat → Int64} {m : Nat} (hI : Inv n m g) (h : ∀ k, k < 96 → r' k = r k) (hC : CR n g r) : CR n g r' := by
  obtain ⟨⟨a1, a2, a3, a4, a5, a6⟩, b, c, d⟩ := hC
  have hH := hI.1.2.2.2.1
  refine ⟨⟨by rw [h _ (by omega)]; exact a1, by rw [h _ (by omega)]; exact a2, by rw [h _ (by omega)]; exact a3, by rw [h _ (by omega)]; exact a4, by rw [h _ (by omega)]; exact a5, by rw [h _ (by omega)]; exact a6⟩, fun k hk => by rw [h _ (by omega)]; exact b k hk, fun q hq => ?_, fun s hs => ?_⟩
  · obtain ⟨c1, c2, c3, c4, c5, c6⟩ := c q hq
    exact ⟨fun w hw => by rw [h _ (by omega)]; exact c1 w hw, by rw [h _ (by omega)]; exact c2, by rw [h _ (by omega)]; exact c3, by rw [h _ (by omega)]; exact c4, by rw [h _ (by omega)]; exact c5, by rw [h _ (by omega)]; exact c6⟩
  · obtain ⟨d1, d2, d3, d4⟩ := d s hs
    exact ⟨by rw [h _ (by omega)]; exact d1, by rw [h _ (by omega)]; exact d2, by rw [h _ (by omega)]; exact d3, fun o ho => ⟨by rw [h _ (by omega)]; exact (d4 o ho).1, by rw [h _ (by omega)]; exact (d4 o ho).2⟩⟩
theorem cpyL_at {f g : Nat → Int64} {n k : Nat} (h : k < n) : va_cpy f g 0 0 n k = f k := by
  unfold va_cpy
  rw [if_pos (by omega)]
  congr 1
  omega
theorem cpyN_at {α : Type} {f g : Nat → α} {sp dp n k : Nat} (h : k < n) : va_cpy f g sp dp n (dp + k) = f (sp + k) := by
  unfold va_cpy
  rw [if_pos (by omega)]
  congr 1
  omega
theorem cpyN_out {α : Type} {f g : Nat → α} {sp dp n k : Nat} (h : k < dp ∨ dp + n ≤ k) : va_cpy f g sp dp n k = g k := by
  unfold va_cpy
  rw [if_neg (by omega)]
theorem c_keep {σ : Wd} {un nx : Nat} (hu : un ≤ 40) (hn : nx < 40) (h2 : gI σ 66 2 = nI un) (h1 : gI σ 66 1 = nI nx) : M_X2_keep σ = some (uI (uI (rL σ (68 + nx) (va_cpy (σ.2.1 29) (σ.2.1 (68 + nx)) 0 0 96)) 66 1 (nI ((nx + 1) % 40))) 66 2 (nI (min 40 (un + 1)))) := by
  unfold M_X2_keep
  simp only [bnd1_some, bnd2_some, lt_eq]
  rw [h1, chk_pos ((ib_nI (by omega)).mpr hn), chk_pos (by decide), chk_pos (by decide), ix_nI (by omega)]
  have e1 : gI (rL σ (68 + nx) (va_cpy (σ.2.1 29) (σ.2.1 (68 + nx)) (ix (0 : Int32)) (ix (0 : Int32)) (ix (96 : Int32)))) 66 1 = nI nx := h1
  rw [e1]
  rw [show (1 : Int32) = nI 1 from rfl, show (40 : Int32) = nI 40 from rfl, nI_add, pk_rem (by omega) (by decide) (by decide)]
  have e2 : gI (uI (rL σ (68 + nx) (va_cpy (σ.2.1 29) (σ.2.1 (68 + nx)) (ix (0 : Int32)) (ix (0 : Int32)) (ix (96 : Int32)))) 66 1 (nI ((nx + 1) % 40))) 66 2 = nI un := by
    rw [gI_uI, if_neg (by omega)]
    exact h2
  rw [e2, nI_add]
  have e3 : (if nI 40 < nI (un + 1) then nI 40 else nI (un + 1)) = nI (min 40 (un + 1)) := by
    by_cases hq : 40 < un + 1
    · rw [if_pos ((nI_ltI (by omega) (by omega)).mpr hq), Nat.min_eq_left (by omega)]
    · rw [if_neg (fun z => hq ((nI_ltI (by omega) (by omega)).mp z)), Nat.min_eq_right (by omega)]
  rw [e3]
  rfl
theorem gI_2 {σ0 s : Wd} {c k : Nat} (h : s.1 c = σ0.1 c) : gI s c k = gI σ0 c k := congrFun h k
theorem m_shift {τ : Wd} : iter (fun s : Int32 × Wd => M_X9_records_L11 s.1 s.2) FU ((0 : Int32), τ) = some (rI τ 32 (va_cpy (τ.1 32) (τ.1 32) 770 0 30030)) :=
  cp_loop (σ0 := τ) (a := 32) (b := 32) (sp := 770) (dp := 0) (N := 30030) (body := fun s : Int32 × Wd => M_X9_records_L11 s.1 s.2) (Or.inr (Or.inr (by decide))) (by decide) (fun i s hi _ _ => by
    show M_X9_records_L11 (nI i) s = _
    unfold M_X9_records_L11
    simp (disch := omega) only [i_lit, pk_mul, nI_add, ib_nI, ix_nI, nI_leI, nI_ltI, nI_eq, ne_eq, bnd1_some, bnd2_some, lt_eq]
    by_cases h : 30030 ≤ i
    · rw [if_pos h, if_pos h]
    · rw [if_neg h, if_neg h, chk_pos (by omega), chk_pos (by omega), Nat.zero_add, Nat.add_comm i 770])
theorem m_lay {τ : Wd} {un : Nat} (hu : un < 40) (h51 : gI τ 0 51 = nI un) : iter (fun s : Int32 × Wd => M_X9_records_L52 s.1 s.2) FU ((0 : Int32), τ) = some (rI τ 32 (va_cpy (τ.1 25) (τ.1 32) 0 (770 * un) 770)) :=
  cp_loop (σ0 := τ) (a := 25) (b := 32) (sp := 0) (dp := 770 * un) (N := 770) (body := fun s : Int32 × Wd => M_X9_records_L52 s.1 s.2) (Or.inl (by decide)) (by decide) (fun i s hi hc _ => by
    show M_X9_records_L52 (nI i) s = _
    unfold M_X9_records_L52
    rw [show gI s 0 51 = nI un from (gI_2 (hc 0 (by decide))).trans h51]
    simp (disch := omega) only [i_lit, pk_mul, nI_add, ib_nI, ix_nI, nI_leI, nI_ltI, nI_eq, ne_eq, bnd1_some, bnd2_some, lt_eq]
    by_cases h : 770 ≤ i
    · rw [if_pos h, if_pos h]
    · rw [if_neg h, if_neg h, chk_pos (by omega), chk_pos (by omega), Nat.zero_add])
theorem m_recJ {τ : Wd} {un : Nat} (hu : un < 40) (h51 : gI τ 0 51 = nI un) : M_X9_records_J50 τ = some (rI (uI (rI τ 32 (va_cpy (τ.1 25) (τ.1 32) 0 (770 * un) 770)) 0 51 (nI (un + 1))) 25 (va_cpy (τ.1 26) (τ.1 25) 0 0 770)) := by
  unfold M_X9_records_J50
  rw [m_lay hu h51]
  simp only [bnd1_some, un1, lt_eq]
  rw [gI_rI, if_neg (by decide), h51, show (1 : Int32) = nI 1 from rfl, nI_add, m_keepsRow]
  rfl
theorem m_records {τ : Wd} {un : Nat} (hu : un ≤ 40) (h51 : gI τ 0 51 = nI un) : ∃ τ', M_X9_records τ = some τ' ∧ (∀ c, c ≠ 0 → c ≠ 25 → c ≠ 32 → τ'.1 c = τ.1 c) ∧ τ'.2 = τ.2 ∧ (∀ k, k ≠ 51 → gI τ' 0 k = gI τ 0 k) ∧ gI τ' 0 51 = nI (min 40 (un + 1)) ∧ (∀ k, k < 770 → gI τ' 25 k = gI τ 26 k) ∧ ∀ u k, k < 770 → (un < 40 → u < un → gI τ' 32 (770 * u + k) = gI τ 32 (770 * u + k)) ∧ (un = 40 → u < 39 → gI τ' 32 (770 * u + k) = gI τ 32 (770 * (u + 1) + k)) ∧ (u = min un 39 → gI τ' 32 (770 * u + k) = gI τ 25 k) := by
  by_cases h4 : un = 40
  · subst h4
    unfold M_X9_records
    rw [h51, if_neg (by decide), m_shift]
    simp only [bnd1_some, un1, lt_eq]
    rw [gI_rI, if_neg (by decide), h51, show nI 40 - 1 = nI 39 from rfl]
    have e5 : gI (uI (rI τ 32 (va_cpy (τ.1 32) (τ.1 32) 770 0 30030)) 0 51 (nI 39)) 0 51 = nI 39 := by rw [gI_uI, if_pos ⟨rfl, rfl⟩]
    refine ⟨_, m_recJ (un := 39) (by decide) e5, fun c h0 h1 h2 => ?_, rfl, fun k hk => ?_, ?_, fun k hk => ?_, fun u k hk => ⟨fun h => absurd h (by decide), fun _ hu => ?_, fun hu => ?_⟩⟩
    · unfold uI rI; simp [h0, h1, h2]
    · simp only [gI_uI, gI_rI, gI_uL, gI_rL, gI_uR, gL_uL, gL_rL, gL_uI, gL_rI, gL_uR, gR_uI, gR_rI, gR_uL, gR_rL, gR_uR, hk]; simp
    · simp only [gI_uI, gI_rI, gI_uL, gI_rL, gI_uR, gL_uL, gL_rL, gL_uI, gL_rI, gL_uR, gR_uI, gR_rI, gR_uL, gR_rL, gR_uR]; simp
    · rw [gI_rI, if_pos rfl, cpy_at hk]
      unfold uI rI gI; simp
    · simp only [gI_uI, gI_rI, gI_uL, gI_rL, gI_uR, gL_uL, gL_rL, gL_uI, gL_rI, gL_uR, gR_uI, gR_rI, gR_uL, gR_rL, gR_uR]
      simp only [if_pos, if_true, Nat.reduceEqDiff, if_false, false_and]
      rw [cpyN_out (by omega)]
      unfold uI rI
      simp only [if_true, Nat.reduceEqDiff, if_false]
      rw [show 770 * u + k = 0 + (770 * u + k) by omega, cpyN_at (by omega)]
      show τ.1 32 (770 + (770 * u + k)) = τ.1 32 (770 * (u + 1) + k)
      rw [show 770 + (770 * u + k) = 770 * (u + 1) + k by omega]
    · subst hu
      simp only [gI_uI, gI_rI, gI_uL, gI_rL, gI_uR, gL_uL, gL_rL, gL_uI, gL_rI, gL_uR, gR_uI, gR_rI, gR_uL, gR_rL, gR_uR]
      simp only [if_pos, if_true, Nat.reduceEqDiff, if_false, false_and]
      rw [show min 40 39 = 39 by decide, cpyN_at hk]
      unfold uI rI
      simp [gI]
  · unfold M_X9_records
    rw [h51, if_pos (by rw [show (40 : Int32) = nI 40 from rfl, nI_ne (by omega) (by omega)]; exact h4)]
    refine ⟨_, m_recJ (un := un) (by omega) h51, fun c h0 h1 h2 => ?_, rfl, fun k hk => ?_, ?_, fun k hk => ?_, fun u k hk => ⟨fun _ hu => ?_, fun h => absurd h h4, fun hu => ?_⟩⟩
    · unfold uI rI; simp [h0, h1, h2]
    · simp only [gI_uI, gI_rI, gI_uL, gI_rL, gI_uR, gL_uL, gL_rL, gL_uI, gL_rI, gL_uR, gR_uI, gR_rI, gR_uL, gR_rL, gR_uR, hk]; simp
    · simp only [gI_uI, gI_rI, gI_uL, gI_rL, gI_uR, gL_uL, gL_rL, gL_uI, gL_rI, gL_uR, gR_uI, gR_rI, gR_uL, gR_rL, gR_uR]; rw [Nat.min_eq_right (by omega)]; simp
    · rw [gI_rI, if_pos rfl, cpy_at hk]
      rfl
    · simp only [gI_uI, gI_rI, gI_uL, gI_rL, gI_uR, gL_uL, gL_rL, gL_uI, gL_rI, gL_uR, gR_uI, gR_rI, gR_uL, gR_rL, gR_uR]
      simp only [if_pos, if_true, Nat.reduceEqDiff, if_false, false_and]
      rw [cpyN_out (by omega)]
      rfl
    · subst hu
      simp only [gI_uI, gI_rI, gI_uL, gI_rL, gI_uR, gL_uL, gL_rL, gL_uI, gL_rI, gL_uR, gR_uI, gR_rI, gR_uL, gR_rL, gR_uR]
      simp only [if_pos, if_true, Nat.reduceEqDiff, if_false, false_and]
      rw [Nat.min_eq_left (by omega), cpyN_at hk, Nat.zero_add]
      rfl
