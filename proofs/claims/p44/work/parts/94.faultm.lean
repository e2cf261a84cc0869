/-! reading on after a fault: the model -/
def okm (l c j : Nat) : Prop := (c = 0 ∧ (j = 11 ∨ j = 12 ∨ j = 13 ∨ j = 14 ∨ j = 15 ∨ j = 16 ∨ j = 20 ∨ j = 33 ∨ j = 37)) ∨ c = 9 ∨ c = 22 ∨ ((c = 10 ∨ c = 11 ∨ c = 12 ∨ c = 14 ∨ c = 19) ∧ j = l) ∨ ((c = 13 ∨ c = 15 ∨ c = 16 ∨ c = 17) ∧ 6 * l ≤ j ∧ j < 6 * l + 6) ∨ (c = 18 ∧ 30 * l ≤ j ∧ j < 30 * l + 30) ∨ ((c = 20 ∨ c = 21) ∧ 420 * l ≤ j ∧ j < 420 * l + 420)
def FRm (l : Nat) (τ τ' : Wd) : Prop := (∀ c j, ¬ okm l c j → gI τ' c j = gI τ c j) ∧ (∀ c, c ≠ 8 → τ'.2.1 c = τ.2.1 c) ∧ τ'.2.2 = τ.2.2
theorem FRm.refl {l : Nat} {τ : Wd} : FRm l τ τ := ⟨fun _ _ _ => rfl, fun _ _ => rfl, rfl⟩
theorem FRm.wI {l : Nat} {τ τ' : Wd} {c k : Nat} {v : Int32} (hc : okm l c k) (h : FRm l τ τ') : FRm l τ (uI τ' c k v) := ⟨fun d j hd => by
  rw [gI_uI, if_neg (fun z => hd (by rw [z.1, z.2]; exact hc))]
  exact h.1 d j hd, h.2.1, h.2.2⟩
theorem FRm.wL {l : Nat} {τ τ' : Wd} {k : Nat} {v : Int64} (h : FRm l τ τ') : FRm l τ (uL τ' 8 k v) := ⟨h.1, fun d a => by
  have : (uL τ' 8 k v).2.1 d = τ'.2.1 d := by
    funext j
    show gL (uL τ' 8 k v) d j = gL τ' d j
    rw [gL_uL, if_neg (fun z => a z.1)]
  rw [this]; exact h.2.1 d a, h.2.2⟩
def MFT (l : Nat) (τ0 τ : Wd) : Prop := FRm l τ0 τ ∧ 0 < gI τ 0 13 ∧ gI τ 0 13 = gI τ0 0 13 ∧ gI τ 0 14 = gI τ0 0 14 ∧ gI τ 0 19 = nI l ∧ l < 2 ∧ (∃ P, P ≤ 400 ∧ gI τ 0 11 = nI P)
theorem pos_ne {v : Int32} (h : 0 < v) : v ≠ 0 ∧ ¬ v ≤ 0 := by
  have h : (0 : Int32).toInt < v.toInt := Int32.lt_iff_toInt_lt.mp h
  have h0 : (0 : Int32).toInt = 0 := rfl
  exact ⟨fun z => by rw [z] at h; omega, fun z => by have z : v.toInt ≤ (0 : Int32).toInt := Int32.le_iff_toInt_le.mp z; omega⟩
section MF
variable {l : Nat} {τ0 τ : Wd}
theorem MFT.wI {c k : Nat} {v : Int32} (hc : okm l c k) (h0 : c = 0 → k ≠ 13 ∧ k ≠ 14 ∧ k ≠ 11) (h : MFT l τ0 τ) : MFT l τ0 (uI τ c k v) := by
  obtain ⟨a1, a2, a3, a4, a5, a6, ⟨P, p1, p2⟩⟩ := h
  have e1 : gI (uI τ c k v) 0 13 = gI τ 0 13 := by rw [gI_uI, if_neg (fun z => (h0 z.1.symm).1 z.2.symm)]
  refine ⟨a1.wI hc, by rw [e1]; exact a2, e1.trans a3, ?_, ?_, a6, ⟨P, p1, ?_⟩⟩
  · rw [gI_uI, if_neg (fun z => (h0 z.1.symm).2.1 z.2.symm)]; exact a4
  · rw [gI_uI, if_neg (fun z => by rw [← z.1, ← z.2] at hc; unfold okm at hc; omega)]; exact a5
  · rw [gI_uI, if_neg (fun z => (h0 z.1.symm).2.2 z.2.symm)]; exact p2
theorem MFT.wP {P : Nat} (hP : P ≤ 400) (h : MFT l τ0 τ) : MFT l τ0 (uI τ 0 11 (nI P)) := by
  obtain ⟨a1, a2, a3, a4, a5, a6, _⟩ := h
  refine ⟨a1.wI (Or.inl ⟨rfl, Or.inl rfl⟩), ?_, ?_, ?_, ?_, a6, ⟨P, hP, gI_s⟩⟩
  · rw [gI_uI, if_neg (by omega)]; exact a2
  · rw [gI_uI, if_neg (by omega)]; exact a3
  · rw [gI_uI, if_neg (by omega)]; exact a4
  · rw [gI_uI, if_neg (by omega)]; exact a5
theorem G_fail (h : MFT l τ0 τ) (v : Int32) : M_X9_fail τ v = some τ := by
  unfold M_X9_fail
  rw [if_neg (pos_ne h.2.1).2]
theorem G_is (h : MFT l τ0 τ) (v : Int32) : M_X9_is τ v = some 0 := by
  unfold M_X9_is
  rw [if_pos (pos_ne h.2.1).1]
theorem G_must (h : MFT l τ0 τ) (v : Int32) : M_X9_must τ v = some τ := by
  unfold M_X9_must
  rw [G_is h, bnd1_some, if_pos rfl, G_fail h, bnd1_some]
theorem G_goes (h : MFT l τ0 τ) : ∃ τ', M_X9_goesOn τ = some τ' ∧ MFT l τ0 τ' := by
  obtain ⟨P, p1, p2⟩ := h.2.2.2.2.2.2
  unfold M_X9_goesOn
  rw [p2]
  by_cases h4 : P = 400
  · subst h4
    rw [if_neg (fun z => z rfl), G_fail h, bnd1_some]
    exact ⟨_, rfl, h⟩
  · rw [if_pos (show nI P ≠ 400 from fun z => h4 ((nI_eq (b := 400) (by omega) (by omega)).mp z)), nI_1]
    exact ⟨_, rfl, h.wP (by omega)⟩
theorem G_wrong (h : MFT l τ0 τ) {v : Int32} {w : Nat} (hw : w < 403) : M_X9_wrong τ v (nI w) = some τ := by
  unfold M_X9_wrong
  rw [chk_pos ((ib_nI (by omega)).mpr hw)]
  simp only [lt_eq]
  rw [if_pos h.2.1]
theorem G_bounded (h : MFT l τ0 τ) (v w : Int32) : M_X9_bounded τ v w = some (v, τ) := by
  unfold M_X9_bounded M_X9_bounded_J15
  rw [if_pos h.2.1, G_fail h, bnd1_some]
theorem G_named (h : MFT l τ0 τ) : ∃ r, M_X9_named τ = some (r, τ) := by
  unfold M_X9_named
  simp only [lt_eq]
  rw [G_must h, bnd1_some, show FU = 999999 + 1 from rfl, it_x (x := τ) (by
    show M_X9_named_L12 _ 0 τ = _
    unfold M_X9_named_L12
    by_cases h0 : gI τ 0 20 ≤ 0
    · rw [if_pos h0]
    · rw [if_neg h0, if_pos (pos_ne h.2.1).1]), bnd1_some]
  exact ⟨_, rfl⟩
theorem G_term (h : MFT l τ0 τ) {v : Nat} (hv : 30 * l ≤ v ∧ v < 30 * l + 30) : ∃ τ', M_X9_termTold τ (nI v) = some τ' ∧ MFT l τ0 τ' := by
  have hl := h.2.2.2.2.2.1
  unfold M_X9_termTold
  rw [chk_pos ((ib_nI (by omega)).mpr (by omega)), ix_nI (by omega)]
  simp only [lt_eq]
  have h2 : MFT l τ0 (uI τ 18 v (gI τ 0 33)) := h.wI (by unfold okm; omega) (fun z => absurd z (by decide))
  rw [if_pos (pos_ne h2.2.1).1]
  exact ⟨_, rfl, h2⟩
end MF
