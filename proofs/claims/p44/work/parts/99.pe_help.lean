/-! expressions: helpers for the loop -/
theorem isop_t : ∀ K : Fin 31, VK K.val → M_X3_isOperator (nI (ck K.val)) = some (boI (decide (K.val = 8 ∨ K.val = 9 ∨ K.val = 10 ∨ K.val = 15))) := by decide +kernel
section EH
variable {u : Nat → Nat} {e n0 g l P fl fl2 pd pd2 : Nat} {σ0 τ0 σ τ σ2 τ2 : Wd}
/-- the class's side of one state, the model's of another: one fault -/
theorem FLT_mk (h : Bs u e n0 g l P fl pd σ0 τ0 σ τ) (h2 : Bs u e n0 g l P fl2 pd2 σ0 τ0 σ2 τ2) {f : Nat} (hf : f = 1 ∨ f = 2) : FLT g l σ0 τ0 (flC σ f (sq u e P)) (flM τ2 f (sq u e P)) := by
  obtain ⟨σf, τf, q1, q2, q3, q4, q5, q6⟩ := h.fault hf
  obtain ⟨σg, τg, p1, p2, p3, p4, p5, p6⟩ := h2.fault hf
  refine ⟨σf, τg, q1, p2, ?_, ?_, q5, p6⟩
  · rw [q3, ← q6.2.2.1, ← p6.2.2.1]
    unfold flM
    rw [gI_uI, if_neg (by omega), gI_s, gI_uI, if_neg (by omega), gI_s]
  · rw [q4, ← q6.2.2.2.1, ← p6.2.2.2.1]
    unfold flM
    rw [gI_s, gI_s]
theorem FLT.mI {c k : Nat} {v : Int32} (h : FLT g l σ0 τ0 σ τ) (hc : okm l c k) (h0 : c = 0 → k ≠ 13 ∧ k ≠ 14 ∧ k ≠ 11) : FLT g l σ0 τ0 σ (uI τ c k v) := by
  obtain ⟨σf, τf, q1, q2, q3, q4, q5, q6⟩ := h
  exact ⟨σf, τf, q1, q2, q3, q4, q5, q6.wI hc h0⟩
theorem FLT.m (h : FLT g l σ0 τ0 σ τ) (k : ∀ τf, MFT l τf τ → MFT l τf τ2) : FLT g l σ0 τ0 σ τ2 := by
  obtain ⟨σf, τf, q1, q2, q3, q4, q5, q6⟩ := h
  exact ⟨σf, τf, q1, q2, q3, q4, q5, k τf q6⟩
theorem FLT.c (h : FLT g l σ0 τ0 σ τ) (k : ∀ σf, CFT g σf σ → CFT g σf σ2) : FLT g l σ0 τ0 σ2 τ := by
  obtain ⟨σf, τf, q1, q2, q3, q4, q5, q6⟩ := h
  exact ⟨σf, τf, q1, q2, q3, q4, k σf q5, q6⟩
end EH
section EG
variable {l : Nat} {τ0 τ : Wd}
theorem G_unit (h : MFT l τ0 τ) : M_X9_unit τ = some τ := by
  unfold M_X9_unit M_X9_unit_J91
  rw [G_is h, bnd1_some, if_pos rfl, if_pos (pos_ne h.2.1).1, G_is h, bnd1_some, if_pos rfl, G_fail h, bnd1_some]
/-- signs come out after a fault -/
theorem G_out (h : MFT l τ0 τ) {w i : Nat} (h37 : gI τ 0 37 = nI w) (hw : w ≤ 32) (h33 : gI τ 0 33 = nI i) (hi : 420 * l ≤ i) (hi2 : i + w ≤ 420 * l + 420) : ∃ τ', M_X9_comesOut τ 0 = some τ' ∧ MFT l τ0 τ' := by
  have hl := h.2.2.2.2.2.1
  obtain ⟨x, h1, h2⟩ := ow_iter (body := fun s : Wd => M_X9_comesOut_L0 0 s) (Q := fun x => ∃ τ', (x = .inl τ' ∨ x = .inr τ') ∧ MFT l τ0 τ') (fun k s => ∃ i, MFT l τ0 s ∧ k ≤ 32 ∧ gI s 0 37 = nI k ∧ gI s 0 33 = nI i ∧ 420 * l ≤ i ∧ i + k ≤ 420 * l + 420) (fun k s ⟨i, hM, hk, e37, e33, j1, j2⟩ => by
    show ow (M_X9_comesOut_L0 0 s) _
    unfold M_X9_comesOut_L0 M_X9_comesOut_J42 M_X9_comesOut_J84
    rw [e37]
    by_cases h0 : k = 0
    · subst h0
      rw [if_pos (by decide)]
      exact ow_some.mpr ⟨s, Or.inl rfl, hM⟩
    · rw [if_neg (show ¬ nI k ≤ 0 from fun z => by have := (nI_leI (b := 0) (by omega) (by omega)).mp z; omega), nI_p1 (by omega), chk_pos ((ib_nI (by omega)).mpr (by omega)), ix_nI (by omega)]
      simp only [lt_eq]
      by_cases q : gI s 22 (k - 1) = 6
      · rw [if_pos q]
        exact ow_some.mpr ⟨s, Or.inr rfl, hM⟩
      · have e33' : gI (uI s 0 37 (nI (k - 1))) 0 33 = nI i := by rw [gI_uI, if_neg (by omega)]; exact e33
        have st : ∀ (t0 : Int32) (R : Wd ⊕ (Wd ⊕ Wd) → Prop), R (.inl (emM (uI s 0 37 (nI (k - 1))) i t0 0)) → ow (bnd1 (M_X9_emit (uI s 0 37 (nI (k - 1))) t0 0) (fun s_85 => (some (.inl s_85) : Option (Wd ⊕ (Wd ⊕ Wd))))) R := fun t0 R hR => by
          rw [m_emit e33' (by omega), bnd1_some]
          exact ow_some.mpr hR
        have pr : ∀ t0 : Int32, ∃ k', k' < k ∧ ∃ j, MFT l τ0 (emM (uI s 0 37 (nI (k - 1))) i t0 0) ∧ k' ≤ 32 ∧ gI (emM (uI s 0 37 (nI (k - 1))) i t0 0) 0 37 = nI k' ∧ gI (emM (uI s 0 37 (nI (k - 1))) i t0 0) 0 33 = nI j ∧ 420 * l ≤ j ∧ j + k' ≤ 420 * l + 420 := fun t0 => by
          refine ⟨k - 1, by omega, i + 1, ?_, by omega, ?_, ?_, by omega, by omega⟩
          · unfold emM
            exact MFT.wI (by unfold okm; omega) (fun _ => ⟨by decide, by decide, by decide⟩) (MFT.wI (by unfold okm; omega) (fun z => absurd z (by decide)) (MFT.wI (by unfold okm; omega) (fun z => absurd z (by decide)) (MFT.wI (by unfold okm; omega) (fun _ => ⟨by decide, by decide, by decide⟩) hM)))
          · rw [emM_o (by omega) (by omega) (by omega), gI_s]
          · unfold emM; exact gI_s
        rw [if_neg q, if_pos True.intro]
        split
        · split
          · split
            · exact st _ _ (pr _)
            · exact st _ _ (pr _)
          · exact st _ _ (pr _)
        · exact st _ _ (pr _)) FU w τ (FU_big (by omega)) ⟨i, h, hw, h37, h33, hi, hi2⟩
  unfold M_X9_comesOut
  rw [show iter (fun s : Wd => M_X9_comesOut_L0 0 s) FU τ = some x from h1, bnd1_some]
  obtain ⟨τ', y, z⟩ := h2
  rcases y with rfl | rfl
  · exact ⟨τ', rfl, z⟩
  · exact ⟨τ', rfl, z⟩
/-- the model's expression ends after a fault -/
def finM (x : Wd ⊕ Wd) : Option Wd := sx (un1 fun sx_12 => (if (gI sx_12 0 12) ≤ (0 : Int32) then (M_X9_expression_J204 sx_12) else (bnd1 (M_X9_fail sx_12 (1 : Int32)) fun s_201 => M_X9_expression_J204 s_201))) (fun q => some q) x
theorem G_fin (h : MFT l τ0 τ) {w i : Nat} (h37 : gI τ 0 37 = nI w) (hw : w ≤ 32) (h33 : gI τ 0 33 = nI i) (hi : 420 * l ≤ i) (hi2 : i + w ≤ 420 * l + 420) : ∃ τ', finM (.inl τ) = some τ' ∧ MFT l τ0 τ' := by
  obtain ⟨τ', y, z⟩ := G_out h h37 hw h33 hi hi2
  refine ⟨τ', ?_, z⟩
  show (if gI τ 0 12 ≤ 0 then M_X9_expression_J204 τ else bnd1 (M_X9_fail τ 1) fun s_201 => M_X9_expression_J204 s_201) = _
  rw [G_fail h, bnd1_some, ite_self]
  unfold M_X9_expression_J204
  rw [y, bnd1_some]
end EG
