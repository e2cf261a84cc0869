/-! reading on after a fault: the class -/
def FRc (g : Nat) (σ σ' : Wd) : Prop := (∀ c, c ≠ 2 → c ≠ 4 → c ≠ 5 → c ≠ 6 → ¬ (g ≤ c ∧ c ≤ g + 8) → σ'.1 c = σ.1 c) ∧ (∀ c, c ≠ 3 → σ'.2.1 c = σ.2.1 c) ∧ σ'.2.2 = σ.2.2
theorem FRc.refl {g : Nat} {σ : Wd} : FRc g σ σ := ⟨fun _ _ _ _ _ _ => rfl, fun _ _ => rfl, rfl⟩
theorem FRc.wI {g : Nat} {σ σ' : Wd} {c k : Nat} {v : Int32} (hc : c = 2 ∨ c = 4 ∨ c = 5 ∨ c = 6 ∨ (g ≤ c ∧ c ≤ g + 8)) (h : FRc g σ σ') : FRc g σ (uI σ' c k v) := ⟨fun d a b f i j => by
  have : (uI σ' c k v).1 d = σ'.1 d := by
    funext x
    show gI (uI σ' c k v) d x = gI σ' d x
    rw [gI_uI, if_neg (fun z => by omega)]
  rw [this]; exact h.1 d a b f i j, h.2.1, h.2.2⟩
theorem FRc.wL {g : Nat} {σ σ' : Wd} {k : Nat} {v : Int64} (h : FRc g σ σ') : FRc g σ (uL σ' 3 k v) := ⟨h.1, fun d a => by
  have : (uL σ' 3 k v).2.1 d = σ'.2.1 d := by
    funext j
    show gL (uL σ' 3 k v) d j = gL σ' d j
    rw [gL_uL, if_neg (fun z => a z.1)]
  rw [this]; exact h.2.1 d a, h.2.2⟩
/-- in a fault: safe, and the fault kept -/
def CFT (g : Nat) (σ0 σ : Wd) : Prop := FRc g σ0 σ ∧ gI σ 2 7 ≠ 0 ∧ gI σ 2 7 = gI σ0 2 7 ∧ gI σ 2 8 = gI σ0 2 8 ∧ gR σ 2 6 = g ∧ (g = 10 ∨ g = 19) ∧ (∃ P, P ≤ 400 ∧ gI σ 6 4 = nI P) ∧ (∃ s, s ≤ 400 ∧ gI σ g 13 = nI s)
section CF
variable {g : Nat} {σ0 σ : Wd}
theorem CFT.wI {c k : Nat} {v : Int32} (hc : c = 2 ∨ c = 4 ∨ c = 5 ∨ c = 6 ∨ (g ≤ c ∧ c ≤ g + 8)) (h2 : c = 2 → k ≠ 7 ∧ k ≠ 8) (h6 : c = 6 → k ≠ 4) (h3 : c = g → k ≠ 13) (h : CFT g σ0 σ) : CFT g σ0 (uI σ c k v) := by
  obtain ⟨a1, a2, a3, a4, a5, a6, ⟨P, p1, p2⟩, ⟨s, s1, s2⟩⟩ := h
  have e1 : gI (uI σ c k v) 2 7 = gI σ 2 7 := by rw [gI_uI, if_neg (fun z => (h2 z.1.symm).1 z.2.symm)]
  have e2 : gI (uI σ c k v) 2 8 = gI σ 2 8 := by rw [gI_uI, if_neg (fun z => (h2 z.1.symm).2 z.2.symm)]
  refine ⟨a1.wI hc, by rw [e1]; exact a2, e1.trans a3, e2.trans a4, a5, a6, ⟨P, p1, ?_⟩, ⟨s, s1, ?_⟩⟩
  · rw [gI_uI, if_neg (fun z => h6 z.1.symm z.2.symm)]; exact p2
  · rw [gI_uI, if_neg (fun z => h3 z.1.symm z.2.symm)]; exact s2
theorem CFT.w5 {w : Nat} (h : CFT g σ0 σ) : CFT g σ0 (uI σ 2 5 (nI w)) := by
  obtain ⟨a1, a2, a3, a4, a5, a6, ⟨P, p1, p2⟩, ⟨s, s1, s2⟩⟩ := h
  refine ⟨a1.wI (Or.inl rfl), ?_, ?_, ?_, a5, a6, ⟨P, p1, ?_⟩, ⟨s, s1, ?_⟩⟩
  · rw [gI_uI, if_neg (by omega)]; exact a2
  · rw [gI_uI, if_neg (by omega)]; exact a3
  · rw [gI_uI, if_neg (by omega)]; exact a4
  · rw [gI_uI, if_neg (by omega)]; exact p2
  · rw [gI_uI, if_neg (by omega)]; exact s2
theorem CFT.w13 {s : Nat} (hs : s ≤ 400) (h : CFT g σ0 σ) : CFT g σ0 (uI σ g 13 (nI s)) := by
  obtain ⟨a1, a2, a3, a4, a5, a6, ⟨P, p1, p2⟩, _⟩ := h
  refine ⟨a1.wI (by omega), ?_, ?_, ?_, a5, a6, ⟨P, p1, ?_⟩, ⟨s, hs, gI_s⟩⟩
  · rw [gI_uI, if_neg (by omega)]; exact a2
  · rw [gI_uI, if_neg (by omega)]; exact a3
  · rw [gI_uI, if_neg (by omega)]; exact a4
  · rw [gI_uI, if_neg (by omega)]; exact p2
theorem F_take (h : CFT g σ0 σ) (v : Int32) : M_X3_take σ v = some σ := by
  unfold M_X3_take
  rw [if_neg h.2.1]
theorem F_keep (h : CFT g σ0 σ) (v : Int32) : M_X3_keepName σ v = some σ := by
  unfold M_X3_keepName
  rw [if_pos h.2.1]
theorem F_fail (h : CFT g σ0 σ) (v : Int32) : M_X3_fail σ v = some σ := by
  unfold M_X3_fail
  rw [if_pos h.2.1]
theorem F_cell (h : CFT g σ0 σ) : M_X3_cellHere σ = some (-1, σ) := by
  unfold M_X3_cellHere
  rw [if_pos h.2.1]
theorem F_kind (h : CFT g σ0 σ) : ∃ r, M_X6_kind σ = some r := by
  obtain ⟨_, _, _, _, _, _, ⟨P, p1, p2⟩, _⟩ := h
  unfold M_X6_kind
  rw [p2, chk_pos ((ib_nI (by omega)).mpr (by omega))]
  exact ⟨_, rfl⟩
theorem F_start (h : CFT g σ0 σ) : ∃ r, M_X6_start σ = some r := by
  obtain ⟨_, _, _, _, _, _, ⟨P, p1, p2⟩, _⟩ := h
  unfold M_X6_start
  rw [p2, chk_pos ((ib_nI (by omega)).mpr (by omega))]
  exact ⟨_, rfl⟩
theorem F_number (h : CFT g σ0 σ) : ∃ r, M_X6_number σ = some r := by
  obtain ⟨_, _, _, _, _, _, ⟨P, p1, p2⟩, _⟩ := h
  unfold M_X6_number
  rw [p2, chk_pos ((ib_nI (by omega)).mpr (by omega))]
  exact ⟨_, rfl⟩
theorem F_later (h : CFT g σ0 σ) (v p : Int32) : ∃ σ', M_X3_failLater σ v p = some σ' ∧ CFT g σ0 σ' := by
  unfold M_X3_failLater
  by_cases h9 : gI σ 2 9 ≠ 0
  · rw [if_pos h9]; exact ⟨_, rfl, h⟩
  · rw [if_neg h9]
    exact ⟨_, rfl, CFT.wI (Or.inl rfl) (fun _ => ⟨by decide, by decide⟩) (fun z => absurd z (by decide)) (fun z => by have := h.2.2.2.2.2.1; omega) (CFT.wI (Or.inl rfl) (fun _ => ⟨by decide, by decide⟩) (fun z => absurd z (by decide)) (fun z => by have := h.2.2.2.2.2.1; omega) h)⟩
theorem F_step (h : CFT g σ0 σ) (v w : Int32) : ∃ σ', M_X7_addStep σ g v w = some σ' ∧ CFT g σ0 σ' ∧ gI σ' 2 5 = gI σ 2 5 := by
  have hg := h.2.2.2.2.2.1
  obtain ⟨s, s1, s2⟩ := h.2.2.2.2.2.2.2
  unfold M_X7_addStep
  rw [s2]
  by_cases h4 : 400 ≤ s
  · rw [if_pos (show (400 : Int32) ≤ nI s from (nI_leI (a := 400) (by omega) (by omega)).mpr h4)]
    exact ⟨_, rfl, h, rfl⟩
  · have ci : ib (nI s) 400 := (ib_nI (by omega)).mpr (by omega)
    rw [if_neg (show ¬ (400 : Int32) ≤ nI s from fun z => h4 ((nI_leI (a := 400) (by omega) (by omega)).mp z)), chk_pos ci, ix_nI (by omega)]
    simp only [lt_eq]
    have e1 : gI (uI σ (g + 7) s v) g 13 = nI s := by rw [gI_uI, if_neg (by omega)]; exact s2
    have e2 : gI (uI (uI σ (g + 7) s v) (g + 8) s w) g 13 = nI s := by rw [gI_uI, if_neg (by omega)]; exact e1
    rw [e1, chk_pos ci, ix_nI (by omega), e2, nI_1]
    exact ⟨_, rfl, CFT.w13 (by omega) (CFT.wI (by omega) (by omega) (by omega) (by omega) (CFT.wI (by omega) (by omega) (by omega) (by omega) h)), by rw [gI_uI, if_neg (by omega), gI_uI, if_neg (by omega), gI_uI, if_neg (by omega)]⟩
theorem rank_some (v : Int32) : ∃ r, M_X3_rankOf v = some r := by
  unfold M_X3_rankOf
  split
  · split
    · exact ⟨_, rfl⟩
    · split <;> exact ⟨_, rfl⟩
  · exact ⟨_, rfl⟩
theorem nI_p1 {n : Nat} (h : 1 ≤ n) : nI n - 1 = nI (n - 1) := nI_nat (a := n) (b := 1) h
theorem F_letOut (h : CFT g σ0 σ) {w : Nat} (w1 : w ≤ 32) (w2 : gI σ 2 5 = nI w) (v : Int32) : ∃ σ', M_X3_letOut σ v = some σ' ∧ CFT g σ0 σ' := by
  unfold M_X3_letOut
  obtain ⟨x, h1, h2⟩ := ow_iter (body := fun s : Wd => M_X3_letOut_L0 v s) (Q := fun x => CFT g σ0 x) (fun k s => CFT g σ0 s ∧ k ≤ 32 ∧ gI s 2 5 = nI k) (fun k s ⟨hC, hk, h5⟩ => by
    show ow (M_X3_letOut_L0 v s) _
    unfold M_X3_letOut_L0
    rw [h5]
    by_cases h0 : k = 0
    · subst h0
      rw [if_pos (by decide)]
      exact ow_some.mpr hC
    · obtain ⟨r, hr⟩ := rank_some (gI s 5 (k - 1))
      rw [if_neg (show ¬ nI k ≤ 0 from fun z => by have := (nI_leI (b := 0) (by omega) (by omega)).mp z; omega), nI_p1 (by omega), chk_pos ((ib_nI (by omega)).mpr (by omega)), ix_nI (by omega), hr, bnd1_some]
      by_cases hrv : r < v
      · rw [if_pos hrv]; exact ow_some.mpr hC
      · rw [if_neg hrv]
        simp only [lt_eq]
        have hC2 := CFT.w5 (w := k - 1) hC
        have hg := hC2.2.2.2.2.1
        obtain ⟨σ', t1, t2, t3⟩ := F_step hC2 5 (gI (uI s 2 5 (nI (k - 1))) 5 (k - 1))
        rw [hg, chk_pos hC2.2.2.2.2.2.1, show gI (uI s 2 5 (nI (k - 1))) 2 5 = nI (k - 1) from gI_s, chk_pos ((ib_nI (by omega)).mpr (by omega)), ix_nI (by omega), t1, bnd1_some]
        exact ow_some.mpr ⟨k - 1, by omega, t2, by omega, t3.trans gI_s⟩) FU w σ (FU_big (by omega)) ⟨h, w1, w2⟩
  rw [show iter (fun s : Wd => M_X3_letOut_L0 v s) FU σ = some x from h1, bnd1_some]
  exact ⟨x, rfl, h2⟩
theorem F_expr (h : CFT g σ0 σ) {v : Nat} (hv : v < 24) : ∃ σ', M_X3_takeExpression σ (nI v) = some σ' ∧ CFT g σ0 σ' := by
  have hg := h.2.2.2.2.1
  have hf := h.2.2.2.2.2.1
  obtain ⟨s, s1, s2⟩ := h.2.2.2.2.2.2.2
  have cv24 : ib (nI v) 24 := (ib_nI (by omega)).mpr hv
  unfold M_X3_takeExpression
  rw [hg, chk_pos hf, chk_pos hf, chk_pos cv24, ix_nI (by omega), s2]
  simp only [lt_eq]
  have h2 : CFT g σ0 (uI σ (g + 5) v (nI s)) := CFT.wI (by omega) (by omega) (by omega) (by omega) h
  have h3 : CFT g σ0 (uI (uI σ (g + 5) v (nI s)) 2 5 0) := CFT.w5 (w := 0) h2
  rw [show FU = 999999 + 1 from rfl, it_x (x := uI (uI σ (g + 5) v (nI s)) 2 5 0) (by
    show M_X3_takeExpression_L31 _ 0 1 1 0 _ = _
    unfold M_X3_takeExpression_L31
    rw [if_neg (by decide), if_neg n10, if_pos h3.2.1]), bnd1_some]
  show ∃ σ', M_X3_takeExpression_J196 _ (nI v) = some σ' ∧ _
  unfold M_X3_takeExpression_J196
  obtain ⟨σ', t1, t2⟩ := F_letOut h3 (w := 0) (by omega) gI_s 1
  rw [t1, bnd1_some, t2.2.2.2.2.1, chk_pos hf, chk_pos hf, chk_pos cv24, ix_nI (by omega)]
  exact ⟨_, rfl, CFT.wI (by omega) (by omega) (by omega) (by omega) t2⟩
theorem F_J191 (h : CFT g σ0 σ) : ∃ σ', M_X3_tellForm_J191 σ = some σ' ∧ CFT g σ0 σ' := by
  unfold M_X3_tellForm_J191
  have hf := h.2.2.2.2.2.1
  rw [F_take h, bnd1_some, h.2.2.2.2.1, chk_pos hf]
  simp only [lt_eq]
  exact ⟨_, rfl, CFT.wI (by omega) (by omega) (by omega) (by omega) h⟩
/-- what a form tells after a part, in a fault -/
theorem F_P3 (h : CFT g σ0 σ) {v : Nat} (hv : v + 3 < 24) : ∃ σ', M_X3_takeExpression σ (nI v + 3) = some σ' ∧ CFT g σ0 σ' := by
  rw [show nI v + 3 = nI (v + 3) from nI_add v 3]
  exact F_expr h hv
end CF
