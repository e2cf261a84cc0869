/-! a form's cells -/
def KnE (fl' fl c : Nat) (t v : Int32) : Prop := fl' = 0 → fl = 0 ∧ ∃ j, j < c ∧ t = nI j ∧ v = nI j
section FV
variable {u : Nat → Nat} {e n0 g l P fl s c f r k q : Nat} {NV NA : Nat → Nat} {σ0 τ0 σ τ : Wd}
/-- other worlds that keep all but what is told of the form besides its parts -/
theorem FS.upd (h : FS u e n0 g l P fl s c f r k q NV NA σ0 τ0 σ τ) {P' fl' q' : Nat} {σ' τ' : Wd} (hB : Bs u e n0 g l P' fl' 0 σ0 τ0 σ' τ') (hP : P ≤ P') (hfl : fl' = 0 → fl = 0) (h1 : ∀ i j, ¬ (i = 2 ∧ (j = 9 ∨ j = 10)) → ¬ (i = 6 ∧ j = 4) → ¬ ((i = g + 2 ∨ i = g + 3 ∨ i = g + 4) ∧ j = f) → gI σ' i j = gI σ i j) (h1' : σ'.2 = σ.2) (h2 : ∀ i j, ¬ (i = 0 ∧ (j = 11 ∨ j = 15 ∨ j = 16)) → ¬ ((i = 15 ∨ i = 16 ∨ i = 17) ∧ j = 6 * l + f) → ¬ (i = 18 ∧ j = 5 * (6 * l + f) + k) → gI τ' i j = gI τ i j) (h2' : τ'.2 = τ.2) (hq : fl' = 0 → PQ g l c f q' σ' τ') : FS u e n0 g l P' fl' s c f r k q' NV NA σ0 τ0 σ' τ' := by
  obtain ⟨hB0, ⟨s1, s2, s3, s4⟩, ⟨d1, d2, d3, d4, d5, d6⟩, ⟨hN, hNA, hr, hrr⟩, hT⟩ := h
  have hg := hB.2.1.2.2.2.2.2.1
  have hl := hB.2.2.1.2.2.2.2.1
  have hP4 := hB.1.2.1
  have c1 : ∀ j, gI σ' g j = gI σ g j := fun j => h1 g j (by omega) (by omega) (by omega)
  refine ⟨hB, ⟨(c1 13).trans s1, (h2 0 33 (by omega) (by omega) (by omega)).trans s2, (h2 0 12 (by omega) (by omega) (by omega)).trans s3, by omega⟩, ⟨(c1 3).trans d1, (c1 4).trans d2, (h2 12 l (by omega) (by omega) (by omega)).trans d3, (h2 14 l (by omega) (by omega) (by omega)).trans d4, d5, d6⟩, ⟨?_, hNA, hr, ?_⟩, fun z => ?_⟩
  · exact Nm_eq (σ' := σ') (τ' := τ') hN (h1 2 3 (by omega) (by omega) (by omega)) (h2 0 20 (by omega) (by omega) (by omega)) (by rw [h1']) (funext fun j => h1 4 j (by omega) (by omega) (by omega)) (by rw [h2']) (funext fun j => h2 9 j (by omega) (by omega) (by omega)) hfl
  · show τ'.2.1 6 r = _
    rw [h2']; exact hrr
  · have k5 : ∀ i, i = g + 5 ∨ i = g + 6 ∨ i = g + 7 ∨ i = g + 8 → gI σ' i = gI σ i := fun i hi => funext fun j => h1 i j (by omega) (by omega) (by omega)
    have m20 : ∀ i, i = 20 ∨ i = 21 → gI τ' i = gI τ i := fun i hi => funext fun j => h2 i j (by omega) (by omega) (by omega)
    have m18 : ∀ j, j ≠ 5 * (6 * l + f) + k → gI τ' 18 j = gI τ 18 j := fun j hj => h2 18 j (by omega) (by omega) (fun z => hj z.2)
    obtain ⟨g1, g2, gq⟩ := hT (hfl z)
    refine ⟨Tw_fs g1 hg hl d5 (by omega) (Nat.le_refl _) (by omega) ⟨fun i j a1 a2 a3 a4 a5 => h1 i j (fun y => a1 (by unfold okC; omega)) (fun y => a1 (by unfold okC; omega)) (fun y => a5 (by omega)), h1'⟩ ⟨fun i j a1 a2 a3 => h2 i j (fun y => a1 (by unfold okE; omega)) (fun y => a2 (by omega)) (fun y => a3 (by omega)), h2'⟩, fun p hp => ?_, hq z⟩
    obtain ⟨cs, a, b1, b2, b3, b4, b5, b6, b7, b8, b9, b10⟩ := g2 p hp
    refine ⟨cs, a, b1, b2, ?_, ?_, ?_, (m18 _ (by omega)).trans b6, ?_, b8, fun y => (m18 _ (by omega)).trans (b9 y), b10⟩
    · rw [k5 (g + 5) (by omega)]; exact b3
    · rw [k5 (g + 6) (by omega)]; exact b4
    · rw [k5 (g + 7) (by omega), k5 (g + 8) (by omega)]; exact b5
    · rw [m20 20 (by omega), m20 21 (by omega)]; exact b7
/-- no cell stands there -/
theorem b_unknown (h : Bs u e n0 g l P fl 0 σ0 τ0 σ τ) (hk : kTk u e P ≠ 1) : M_X3_cellHere σ = some (-1, σ) ∧ M_X9_known τ = some (0, flM τ 1 (sq u e P)) := by
  obtain ⟨st, kd⟩ := b_start h
  have h27 := h.2.1.2.2.2.1
  have h11 := h.2.2.1.2.1
  have hmu := b_must h (k := 1) (by decide)
  rw [if_neg hk] at hmu
  have hmu : M_X9_must τ 1 = _ := hmu
  refine ⟨?_, ?_⟩
  · unfold M_X3_cellHere
    rw [h27, if_neg z00, kd, bnd1_some, if_neg (show ¬ nI (ck (kTk u e P)) = 2 from fun z => hk ((ck_eq kTk_VK.1 (b := 1) (by decide)).mp z))]
  · unfold M_X9_known
    simp only [lt_eq]
    rw [hmu, bnd1_some, show gI (flM τ 1 (sq u e P)) 0 13 = nI 1 by unfold flM; rw [gI_uI, if_neg (by omega), gI_s], if_neg (show ¬ nI 1 ≤ 0 by decide)]
/-- a form's cell, its place j on the class's side, its row R on the model's -/
theorem fs_cell (he : e ≤ 2000) (h : FS u e n0 g l P fl s c f r k q NV NA σ0 τ0 σ τ) {j R q' : Nat} (hj : (j = 3 ∧ R = 16 ∧ q = 1 ∧ q' = 2) ∨ (j = 4 ∧ R = 17 ∧ q = 3 ∧ q' = 4)) : ∃ t σx σ' v τx, M_X3_cellHere σ = some (t, σx) ∧ M_X3_take (uI σx (g + j) f t) 2 = some σ' ∧ M_X9_known τ = some (v, τx) ∧ ((FLT g l σ0 τ0 σ' τx ∧ 0 < gI τx 0 13) ∨ (∃ P' fl', P < P' ∧ FS u e n0 g l P' fl' s c f r k q' NV NA σ0 τ0 σ' (uI τx R (6 * l + f) v))) := by
  have hB := h.1
  have hg := hB.2.1.2.2.2.2.2.1
  have hl := hB.2.2.1.2.2.2.2.1
  have hf := h.2.2.1.2.2.2.2.2
  have hP := hB.1.2.1
  have n13 : ∀ (τx : Wd) (f p : Nat), gI (flM τx f p) 0 13 = nI f := fun τx f p => by unfold flM; rw [gI_uI, if_neg (by omega), gI_s]
  have hw1 : ∀ {fl2 pd2 : Nat} {σy τy : Wd} {t : Int32}, Bs u e n0 g l P fl2 pd2 σ0 τ0 σy τy → Bs u e n0 g l P fl2 pd2 σ0 τ0 (uI σy (g + j) f t) τy := fun hb => hb.wC (by omega) (fun z => by omega) (fun z => by omega)
  by_cases hk : kTk u e P = 1
  · obtain ⟨fl', t, v, σ1, τ1, x1, x2, x3, x4, x5, x6⟩ := b_known hB he h.2.2.2.1.1 hk
    replace x4 : KnE fl' fl c t v := x4
    have x3' := hw1 x3 (t := t)
    have tk := b_take x3' (k := 1) (by decide) (by decide)
    have tk : M_X3_take _ 2 = _ := tk
    rw [if_pos hk] at tk
    by_cases h4 : P < 400
    · rw [if_pos h4] at x2 tk
      refine ⟨t, σ1, _, v, _, x1, tk, x2, Or.inr ⟨P + 1, fl', Nat.lt_succ_self _, ?_⟩⟩
      have hb := (x3'.adv (by rw [hk]; decide) h4).wM (c := R) (k := 6 * l + f) (v := v) (by unfold okm; omega) (fun z => by omega)
      have oC : ∀ i y, ¬ (i = 2 ∧ (y = 9 ∨ y = 10)) → ¬ (i = 6 ∧ y = 4) → ¬ (i = g + j ∧ y = f) → gI (uI (uI σ1 (g + j) f t) 6 4 (nI (P + 1))) i y = gI σ i y := fun i y a1 a2 a3 => by
        rw [gI_uI, if_neg a2, gI_uI, if_neg a3, x5.1 i y a1]
      have oM : ∀ i y, ¬ (i = 0 ∧ (y = 11 ∨ y = 15 ∨ y = 16)) → ¬ (i = R ∧ y = 6 * l + f) → gI (uI (uI τ1 0 11 (nI (P + 1))) R (6 * l + f) v) i y = gI τ i y := fun i y a1 a2 => by
        rw [gI_uI, if_neg a2, gI_uI, if_neg (by omega), x6.1 i y (by omega)]
      have eC : gI (uI (uI σ1 (g + j) f t) 6 4 (nI (P + 1))) (g + j) f = t := by rw [gI_uI, if_neg (by omega), gI_s]
      have eM : gI (uI (uI τ1 0 11 (nI (P + 1))) R (6 * l + f) v) R (6 * l + f) = v := gI_s
      refine FS.upd h hb (by omega) (fun z => (x4 z).1) (fun i y a1 a2 a3 => oC i y a1 a2 (fun z => a3 (by omega))) x5.2 (fun i y a1 a2 a3 => oM i y a1 (fun z => a2 (by omega))) x6.2 (fun z => ?_)
      obtain ⟨z1, jj, z2, z3, z4⟩ := x4 z
      obtain ⟨_, _, gq⟩ := h.2.2.2.2 z1
      unfold PQ
      generalize uI (uI σ1 (g + j) f t) 6 4 (nI (P + 1)) = σ3 at *
      generalize uI (uI τ1 0 11 (nI (P + 1))) R (6 * l + f) v = τ3 at *
      rcases hj with ⟨rfl, rfl, rfl, rfl⟩ | ⟨rfl, rfl, rfl, rfl⟩
      · refine ⟨fun _ => ?_, fun _ => ⟨jj, z2, eC.trans z3, eM.trans z4⟩, fun y => absurd y (by decide), fun y => absurd y (by decide)⟩
        rw [oC (g + 2) f (fun z => by omega) (fun z => by omega) (fun z => by omega), oM 15 _ (fun z => by omega) (fun z => by omega)]
        exact gq.1 (by decide)
      · refine ⟨fun _ => ?_, fun _ => ?_, fun y => absurd y (by decide), fun _ => ⟨jj, z2, eC.trans z3, eM.trans z4⟩⟩
        · rw [oC (g + 2) f (fun z => by omega) (fun z => by omega) (fun z => by omega), oM 15 _ (fun z => by omega) (fun z => by omega)]
          exact gq.1 (by decide)
        · rw [oC (g + 3) f (fun z => by omega) (fun z => by omega) (fun z => by omega), oM 16 _ (fun z => by omega) (fun z => by omega)]
          exact gq.2.1 (by decide)
    · rw [if_neg h4] at x2 tk
      exact ⟨t, σ1, _, 0, _, x1, tk, x2, Or.inl ⟨FLT_mk x3' hB (f := 2) (Or.inr rfl), by rw [n13]; decide⟩⟩
  · obtain ⟨x1, x2⟩ := b_unknown hB hk
    have hb := hw1 hB (t := -1)
    have tk := b_take hb (k := 1) (by decide) (by decide)
    have tk : M_X3_take _ 2 = _ := tk
    rw [if_neg hk] at tk
    exact ⟨-1, σ, _, 0, _, x1, tk, x2, Or.inl ⟨FLT_mk hb hB (f := 1) (Or.inl rfl), by rw [n13]; decide⟩⟩
end FV
