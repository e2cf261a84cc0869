/-! what is told, while it grows -/
def TCs (T : Td) (g s : Nat) (σ : Wd) : Prop := TC T g σ ∧ ∀ f, f < tF T → ∀ p, p < 4 → (p < 3 ∨ tE T f ≠ 0) → ∃ b, b ≤ s ∧ gI σ (g + 6) (4 * f + p) = nI b
def TMs (T : Td) (l s : Nat) (τ : Wd) : Prop := TM T l τ ∧ ∀ f, f < tF T → ∀ p, p < 4 → (p < 3 ∨ tE T f ≠ 0) → ∃ b, b ≤ 420 * l + s ∧ gI τ 18 (5 * (6 * l + f) + p + 1) = nI b
theorem TCs_eq {T : Td} {g s s' : Nat} {σ σ' : Wd} (h : TCs T g s σ) (hs : s ≤ s') (hs4 : s ≤ 400) (h0 : ∀ j, j < 5 → gI σ' g j = gI σ g j) (h1 : ∀ j, j < tC T → gI σ' (g + 1) j = gI σ (g + 1) j) (h2 : ∀ j, j < tF T → gI σ' (g + 2) j = gI σ (g + 2) j ∧ gI σ' (g + 3) j = gI σ (g + 3) j ∧ gI σ' (g + 4) j = gI σ (g + 4) j) (h5 : ∀ j, j < 4 * tF T → gI σ' (g + 5) j = gI σ (g + 5) j ∧ gI σ' (g + 6) j = gI σ (g + 6) j) (h7 : ∀ j, j < s → gI σ' (g + 7) j = gI σ (g + 7) j ∧ gI σ' (g + 8) j = gI σ (g + 8) j) : TCs T g s' σ' := by
  obtain ⟨⟨⟨a1, a2, a3, a4, a5⟩, b, c⟩, d⟩ := h
  refine ⟨⟨⟨(h0 0 (by decide)).trans a1, (h0 1 (by decide)).trans a2, (h0 2 (by decide)).trans a3, (h0 3 (by decide)).trans a4, (h0 4 (by decide)).trans a5⟩, fun i hi => (h1 i hi).trans (b i hi), fun f hf => ?_⟩, fun f hf p hp hq => ?_⟩
  · obtain ⟨c1, c2, c3, c4⟩ := c f hf
    obtain ⟨x2, x3, x4⟩ := h2 f hf
    refine ⟨x2.trans c1, x3.trans c2, x4.trans c3, fun p hp hq => ?_⟩
    obtain ⟨q, q1, q2, q3, q4⟩ := c4 p hp hq
    obtain ⟨b', b1, b2⟩ := d f hf p hp hq
    have hb : q + (tX T f p).length = b' := (nI_eq (by omega) (by omega)).mp (q2.symm.trans b2)
    obtain ⟨y5, y6⟩ := h5 (4 * f + p) (by omega)
    refine ⟨q, y5.trans q1, y6.trans q2, q3, fun i hi => ?_⟩
    obtain ⟨z7, z8⟩ := h7 (q + i) (by omega)
    rw [z7, z8]
    exact q4 i hi
  · obtain ⟨b', b1, b2⟩ := d f hf p hp hq
    exact ⟨b', by omega, (h5 (4 * f + p) (by omega)).2.trans b2⟩
theorem TMs_eq {T : Td} {l s s' : Nat} {τ τ' : Wd} (h : TMs T l s τ) (hs : s ≤ s') (hs4 : s ≤ 400) (hl : l < 2) (h0 : ∀ c, c = 10 ∨ c = 11 ∨ c = 12 ∨ c = 14 ∨ c = 19 → gI τ' c l = gI τ c l) (h1 : ∀ j, j < tC T → gI τ' 13 (6 * l + j) = gI τ 13 (6 * l + j)) (h2 : ∀ j, j < tF T → gI τ' 15 (6 * l + j) = gI τ 15 (6 * l + j) ∧ gI τ' 16 (6 * l + j) = gI τ 16 (6 * l + j) ∧ gI τ' 17 (6 * l + j) = gI τ 17 (6 * l + j)) (h5 : ∀ j, j < 5 * tF T → gI τ' 18 (30 * l + j) = gI τ 18 (30 * l + j)) (h7 : ∀ j, j < 420 * l + s → gI τ' 20 j = gI τ 20 j ∧ gI τ' 21 j = gI τ 21 j) : TMs T l s' τ' := by
  obtain ⟨⟨⟨a1, a2, a3, a4, a5⟩, b, c⟩, d⟩ := h
  have e18 : ∀ f p, f < tF T → p < 5 → gI τ' 18 (5 * (6 * l + f) + p) = gI τ 18 (5 * (6 * l + f) + p) := fun f p hf hp => by
    rw [show 5 * (6 * l + f) + p = 30 * l + (5 * f + p) by omega]
    exact h5 _ (by omega)
  refine ⟨⟨⟨(h0 10 (by omega)).trans a1, (h0 11 (by omega)).trans a2, (h0 19 (by omega)).trans a3, (h0 12 (by omega)).trans a4, (h0 14 (by omega)).trans a5⟩, fun i hi => (h1 i hi).trans (b i hi), fun f hf => ?_⟩, fun f hf p hp hq => ?_⟩
  · obtain ⟨c1, c2, c3, c4⟩ := c f hf
    obtain ⟨x2, x3, x4⟩ := h2 f hf
    refine ⟨x2.trans c1, x3.trans c2, x4.trans c3, fun p hp hq => ?_⟩
    obtain ⟨q, q1, q2, q3, q4⟩ := c4 p hp hq
    obtain ⟨b', b1, b2⟩ := d f hf p hp hq
    have hb : q + (tX T f p).length = b' := (nI_eq (by omega) (by omega)).mp (q2.symm.trans b2)
    refine ⟨q, (e18 f p hf (by omega)).trans q1, (e18 f (p + 1) hf (by omega)).trans q2, q3, fun i hi => ?_⟩
    obtain ⟨z7, z8⟩ := h7 (q + i) (by omega)
    rw [z7, z8]
    exact q4 i hi
  · obtain ⟨b', b1, b2⟩ := d f hf p hp hq
    exact ⟨b', by omega, (e18 f (p + 1) hf (by omega)).trans b2⟩
theorem ltC_uI {σ : Wd} {fl f p c k : Nat} {v : Int32} (h : ¬ (c = 2 ∧ (k = 9 ∨ k = 10))) : ltC (uI σ c k v) fl f p = uI (ltC σ fl f p) c k v := by
  unfold ltC
  by_cases h0 : fl = 0
  · rw [if_pos h0, if_pos h0, uI_comm (c := c) (k := k) (c' := 2) (k' := 9) (by omega), uI_comm (c := c) (k := k) (c' := 2) (k' := 10) (by omega)]
  · rw [if_neg h0, if_neg h0]
theorem ltM_uI {τ : Wd} {fl f p c k : Nat} {v : Int32} (h : ¬ (c = 0 ∧ (k = 15 ∨ k = 16))) : ltM (uI τ c k v) fl f p = uI (ltM τ fl f p) c k v := by
  unfold ltM
  by_cases h0 : fl = 0
  · rw [if_pos h0, if_pos h0, uI_comm (c := c) (k := k) (c' := 0) (k' := 15) (by omega), uI_comm (c := c) (k := k) (c' := 0) (k' := 16) (by omega)]
  · rw [if_neg h0, if_neg h0]
