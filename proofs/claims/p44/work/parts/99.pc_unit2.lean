/-! expressions: a unit on both sides -/
section EV
variable {u : Nat → Nat} {e n0 g l P fl a nc : Nat} {σ0 τ0 σ1 τ1 : Wd}
/-- the end of a unit: passed, or a fault -/
def UE (u : Nat → Nat) (e n0 g l P fl a nc : Nat) (σ0 τ0 σ1 τ1 : Wd) (s w d : Nat) (W : Nat → Nat) (σ' τ' : Wd) : Prop :=
  (∃ fl' cs', (fl' = 0 → fl = 0) ∧ EX u e n0 g l (P + 1) fl' a nc σ0 τ0 σ1 τ1 (s + 1) w d 1 W cs' σ' τ') ∨ (FLT g l σ0 τ0 σ' τ' ∧ gI σ' 2 5 = nI w)
theorem flC_25 {σ : Wd} {f p : Nat} {v : Int32} (h : gI σ 2 5 = v) : gI (flC σ f p) 2 5 = v := by
  unfold flC
  rw [gI_uI, if_neg (by omega), gI_uI, if_neg (by omega)]
  exact h
theorem EX.unit (he : e ≤ 2000) {s w d m mc : Nat} {W : Nat → Nat} {cs : List (Nat × Int32)} {NV NA : Nat → Nat} {σ τ : Wd} (h : EX u e n0 g l P fl a nc σ0 τ0 σ1 τ1 s w d 0 W cs σ τ) (hN : Nm m mc nc fl NV NA σ τ) (h6 : kTk u e P ≠ 6) : ∃ σa σ' τ', M_X3_addUnit σ (nI (ck (kTk u e P))) = some σa ∧ M_X3_take σa (if decide (kTk u e P = 2 ∨ kTk u e P = 28 ∨ kTk u e P = 29 ∨ kTk u e P = 30) = true then nI (ck (kTk u e P)) else 2) = some σ' ∧ M_X9_unit τ = some τ' ∧ UE u e n0 g l P fl a nc σ0 τ0 σ1 τ1 s w d W σ' τ' := by
  have hbd := Wt_bd h.2.2.1
  have hB := h.1
  obtain ⟨b1, b2, b3, b4, b5⟩ := h.2.1
  have w1 := h.2.2.1.1
  have hg := hB.2.1.2.2.2.2.2.1
  have hg6 : gR σ 2 6 = g := hB.2.1.2.2.2.2.1
  have h64 := hB.2.1.2.2.1
  have hl := hB.2.2.1.2.2.2.2.1
  have h11 := hB.2.2.1.2.1
  have h13 := hB.2.2.1.2.2.1
  have hP : P ≤ 400 := hB.1.2.1
  obtain ⟨r1, r2, r3, r4, m1, m2, m3, m4⟩ := hB.row
  have hVK := (kTk_VK (u := u) (e := e) (k := P)).1
  have hK31 := VK_lt hVK
  have is2 := b_is hB (k := 2) (by decide)
  have is1 := b_is hB (k := 1) (by decide)
  have is2 : M_X9_is τ 2 = _ := is2
  have is1 : M_X9_is τ 1 = _ := is1
  have c9 : ib (nI P) 403 := (ib_nI (by omega)).mpr (by omega)
  -- a value: emitted, then passed
  have val : ∀ (k : Nat) (v x y x' y' : Int32), kTk u e P ≠ 0 → (fl = 0 → x = (ckd k v).1 ∧ ((k ≠ 1 ∨ v < 6) → y = (ckd k v).2) ∧ x' = nI k ∧ (k < 2 → y' = v) ∧ wfR nc [(k, v)] (w - d + 0) (w - d + 0 + 1)) → ∃ σ' τ', M_X3_take (adC σ g s x y) (nI (ck (kTk u e P))) = some σ' ∧ M_X9_goesOn (emM τ (420 * l + s) x' y') = some τ' ∧ UE u e n0 g l P fl a nc σ0 τ0 σ1 τ1 s w d W σ' τ' := fun k v x y x' y' hK hx => by
    have hB2 : Bs u e n0 g l P fl 0 σ0 τ0 (adC σ g s x y) (emM τ (420 * l + s) x' y') := hB.emit (by omega) (by omega) (by omega)
    rw [b_take hB2 hVK hK, if_pos rfl, b_goes hB2]
    by_cases h4 : P < 400
    · rw [if_pos h4, if_pos h4]
      exact ⟨_, _, rfl, rfl, Or.inl ⟨fl, _, fun z => z, h.step (k := k) (v := v) h4 hK hB ⟨fun _ _ _ => rfl, rfl⟩ ⟨fun _ _ _ => rfl, rfl⟩ (fun z => z) hx⟩⟩
    · rw [if_neg h4, if_neg h4]
      exact ⟨_, _, rfl, rfl, Or.inr ⟨hB2.fault (Or.inr rfl), flC_25 ((adC_o (by omega) (by omega) (by omega)).trans w1)⟩⟩
  by_cases k2 : kTk u e P = 2
  · have r4 := r4 k2
    have m4 := m4 k2
    obtain ⟨σ', τ', x1, x2, x3⟩ := val 0 (nI (vTk u e P)) 0 (nI (vTk u e P)) 0 (nI (vTk u e P)) (by omega) (fun _ => ⟨rfl, fun _ => rfl, rfl, fun _ => rfl, wfR_num (by omega)⟩)
    refine ⟨adC σ g s 0 (nI (vTk u e P)), σ', τ', ?_, ?_, ?_, x3⟩
    · unfold M_X3_addUnit M_X6_number
      rw [k2, if_pos (show nI (ck 2) = 3 from rfl), hg6, chk_pos hg, h64, chk_pos ((ib_nI (by omega)).mpr (by omega)), ix_nI (by omega), lN32 r4.1, bnd1_some, c_add b1 (by omega), bnd1_some]
    · rw [decide_eq_true (Or.inl k2), if_pos rfl]; exact x1
    · unfold M_X9_unit
      rw [is2, bnd1_some, decide_eq_true k2, if_neg (show ¬ boI true = 0 by decide), h11, chk_pos c9, ix_nI (by omega), m4, m_emit b2 (by omega), bnd1_some, x2, bnd1_some]
  · have isn2 : boI (decide (kTk u e P = 2)) = 0 := by rw [decide_eq_false k2]; rfl
    by_cases k28 : kTk u e P = 28 ∨ kTk u e P = 29 ∨ kTk u e P = 30
    · have hck : nI (ck (kTk u e P)) = nI (80 + kTk u e P) := by rcases k28 with z | z | z <;> rw [z] <;> rfl
      have mu : M_X9_unit τ = bnd1 (M_X9_emit τ 1 (((6 : Int32) + nI (kTk u e P)) - 28)) fun s_81 => bnd1 (M_X9_goesOn s_81) fun s_85 => some s_85 := by
        unfold M_X9_unit
        rw [is2, bnd1_some, isn2, if_pos rfl, h13, if_neg z00, h11, chk_pos c9, ix_nI (by omega), m1, if_neg (show ¬ nI (kTk u e P) < 28 from fun z => by have := (nI_ltI (b := 28) (by omega) (by omega)).mp z; omega), chk_pos c9, if_neg (show ¬ (30 : Int32) < nI (kTk u e P) from fun z => by have := (nI_ltI (a := 30) (by omega) (by omega)).mp z; omega), chk_pos c9]
      have fin : ∀ (c : Nat) (x : Int32), (6 ≤ c ∧ c < 9) → ((6 : Int32) + nI (kTk u e P)) - 28 = nI c → x = (ckd 1 (nI c)).1 → (ckd 1 (nI c)).2 = 0 → M_X3_addUnit σ (nI (ck (kTk u e P))) = some (adC σ g s x 0) → ∃ σa σ' τ', M_X3_addUnit σ (nI (ck (kTk u e P))) = some σa ∧ M_X3_take σa (if decide (kTk u e P = 2 ∨ kTk u e P = 28 ∨ kTk u e P = 29 ∨ kTk u e P = 30) = true then nI (ck (kTk u e P)) else 2) = some σ' ∧ M_X9_unit τ = some τ' ∧ UE u e n0 g l P fl a nc σ0 τ0 σ1 τ1 s w d W σ' τ' := fun c x hc h1 h2 h3 hA => by
        obtain ⟨σ', τ', x1, x2, x3⟩ := val 1 (nI c) x 0 1 (nI c) (by omega) (fun _ => ⟨h2, fun _ => h3.symm, rfl, fun _ => rfl, wfR_ref (by omega) (Or.inr hc)⟩)
        refine ⟨_, σ', τ', hA, ?_, ?_, x3⟩
        · rw [decide_eq_true (Or.inr k28), if_pos rfl]; exact x1
        · rw [mu, h1, m_emit b2 (by omega), bnd1_some, x2, bnd1_some]
      rcases k28 with z | z | z
      · exact fin 6 2 (by omega) (by rw [z]; rfl) rfl rfl (by
          unfold M_X3_addUnit
          rw [z, if_neg (show ¬ nI (ck 28) = 3 by decide), if_pos (show nI (ck 28) = 108 from rfl), hg6, chk_pos hg, c_add b1 (by omega), bnd1_some])
      · exact fin 7 3 (by omega) (by rw [z]; rfl) rfl rfl (by
          unfold M_X3_addUnit
          rw [z, if_neg (show ¬ nI (ck 29) = 3 by decide), if_neg (show ¬ nI (ck 29) = 108 by decide), if_pos (show nI (ck 29) = 109 from rfl), hg6, chk_pos hg, c_add b1 (by omega), bnd1_some])
      · exact fin 8 4 (by omega) (by rw [z]; rfl) rfl rfl (by
          unfold M_X3_addUnit
          rw [z, if_neg (show ¬ nI (ck 30) = 3 by decide), if_neg (show ¬ nI (ck 30) = 108 by decide), if_neg (show ¬ nI (ck 30) = 109 by decide), if_pos (show nI (ck 30) = 110 from rfl), hg6, chk_pos hg, c_add b1 (by omega), bnd1_some])
    · have hdf : ¬ (kTk u e P = 2 ∨ kTk u e P = 28 ∨ kTk u e P = 29 ∨ kTk u e P = 30) := by omega
      have ne : ∀ j : Nat, j < 31 → VK j → kTk u e P ≠ j → nI (ck (kTk u e P)) ≠ nI (ck j) := fun j _ hj hne z => hne ((ck_eq hVK hj).mp z)
      have hA : M_X3_addUnit σ (nI (ck (kTk u e P))) = bnd2 (M_X3_cellHere σ) fun r104 s_104 => bnd1 (M_X7_addStep s_104 (gR σ 2 6) 1 r104) fun s_107 => some s_107 := by
        unfold M_X3_addUnit
        rw [if_neg (show ¬ nI (ck (kTk u e P)) = 3 from ne 2 (by decide) (by decide) k2), if_neg (show ¬ nI (ck (kTk u e P)) = 108 from ne 28 (by decide) (by decide) (by omega)), if_neg (show ¬ nI (ck (kTk u e P)) = 109 from ne 29 (by decide) (by decide) (by omega)), if_neg (show ¬ nI (ck (kTk u e P)) = 110 from ne 30 (by decide) (by decide) (by omega)), chk_pos (by rw [hg6]; exact hg)]
      have mu : M_X9_unit τ = M_X9_unit_J91 τ := by
        unfold M_X9_unit
        rw [is2, bnd1_some, isn2, if_pos rfl, h13, if_neg z00, h11, chk_pos c9, ix_nI (by omega), m1]
        by_cases q : kTk u e P < 28
        · rw [if_pos (show nI (kTk u e P) < 28 from (nI_ltI (b := 28) (by omega) (by omega)).mpr q)]
        · omega
      rw [hA, mu, decide_eq_false hdf, if_neg (by decide)]
      unfold M_X9_unit_J91
      rw [is1, bnd1_some]
      by_cases k1 : kTk u e P = 1
      · obtain ⟨fl', t, v, σb, τb, y1, y2, y3, y4, y5, y6⟩ := b_known hB he hN k1
        rw [y1, bnd2_some, hg6, decide_eq_true k1, if_neg (show ¬ boI true = 0 by decide), y2]
        have e13 : gI σb g 13 = nI s := (y5.1 _ _ (by omega)).trans b1
        rw [c_add e13 (by omega), bnd1_some]
        have hB2 : Bs u e n0 g l P fl' 1 σ0 τ0 (adC σb g s 1 t) (emM τb (420 * l + s) 1 v) := y3.emit (by omega) (by omega) (by omega)
        have tk := b_take hB2 (k := 1) (by decide) (by decide)
        rw [if_pos k1] at tk
        have tk : M_X3_take (adC σb g s 1 t) 2 = _ := tk
        by_cases h4 : P < 400
        · rw [if_pos h4] at tk
          rw [if_pos h4, bnd2_some]
          have e33 : gI (uI τb 0 11 (nI (P + 1))) 0 33 = nI (420 * l + s) := by rw [gI_uI, if_neg (by omega)]; exact (y6.1 _ _ (by omega)).trans b2
          rw [m_emit e33 (by omega), bnd1_some]
          have ec : emM (uI τb 0 11 (nI (P + 1))) (420 * l + s) 1 v = uI (emM τb (420 * l + s) 1 v) 0 11 (nI (P + 1)) := by
            unfold emM
            rw [uI_comm (c := 0) (k := 11) (c' := 20) (by omega), uI_comm (c := 0) (k := 11) (c' := 21) (by omega), uI_comm (c := 0) (k := 11) (c' := 0) (k' := 33) (by omega)]
          rw [ec]
          refine ⟨_, _, _, rfl, tk, rfl, Or.inl ⟨fl', _, fun z => (y4 z).1, h.step (k := 1) (v := v) h4 (by omega) y3 y5 y6 (fun z => (y4 z).1) (fun z => ?_)⟩⟩
          obtain ⟨_, j, j1, j2, j3⟩ := y4 z
          have hnc := hN.2.2.2.2.2.2.2.1
          rw [j2, j3]
          have hj : ∀ i : Fin 6, (1 : Int32) = (ckd 1 (nI i.val)).1 ∧ nI i.val = (ckd 1 (nI i.val)).2 := by decide
          exact ⟨(hj ⟨j, by omega⟩).1, fun _ => (hj ⟨j, by omega⟩).2, rfl, fun _ => rfl, wfR_ref (by omega) (Or.inl j1)⟩
        · rw [if_neg h4] at tk
          rw [if_neg h4, bnd2_some]
          have e33 : gI (flM τ 2 (sq u e P)) 0 33 = nI (420 * l + s) := by unfold flM; rw [gI_uI, if_neg (by omega), gI_uI, if_neg (by omega)]; exact b2
          rw [m_emit e33 (by omega), bnd1_some]
          have hB3 : Bs u e n0 g l P fl 0 σ0 τ0 σ (emM τ (420 * l + s) 1 0) := by
            unfold emM
            exact Bs.wM (Bs.wM (Bs.wM hB (by unfold okm; omega) (fun z => absurd z (by decide))) (by unfold okm; omega) (fun z => absurd z (by decide))) (by unfold okm; omega) (fun _ => ⟨by decide, by decide, by decide, by decide⟩)
          have ec : emM (flM τ 2 (sq u e P)) (420 * l + s) 1 0 = flM (emM τ (420 * l + s) 1 0) 2 (sq u e P) := by
            unfold emM flM
            rw [uI_comm (c := 0) (k := 14) (c' := 20) (by omega), uI_comm (c := 0) (k := 13) (c' := 20) (by omega), uI_comm (c := 0) (k := 14) (c' := 21) (by omega), uI_comm (c := 0) (k := 13) (c' := 21) (by omega), uI_comm (c := 0) (k := 14) (c' := 0) (k' := 33) (by omega), uI_comm (c := 0) (k := 13) (c' := 0) (k' := 33) (by omega)]
          rw [ec]
          refine ⟨_, _, _, rfl, tk, rfl, Or.inr ⟨?_, flC_25 ((adC_o (by omega) (by omega) (by omega)).trans ((y5.1 _ _ (by omega)).trans w1))⟩⟩
          obtain ⟨σf, τf, q1, q2, q3, q4, q5, q6⟩ := hB2.fault (f := 2) (Or.inr rfl)
          obtain ⟨σg, τg, p1, p2, p3, p4, p5, p6⟩ := hB3.fault (f := 2) (Or.inr rfl)
          refine ⟨σf, τg, q1, p2, ?_, ?_, q5, p6⟩
          · rw [q3, ← q6.2.2.1, ← p6.2.2.1]
            unfold flM
            rw [gI_uI, if_neg (by omega), gI_s, gI_uI, if_neg (by omega), gI_s]
          · rw [q4, ← q6.2.2.2.1, ← p6.2.2.2.1]
            unfold flM
            rw [gI_s, gI_s]
      · have cH : M_X3_cellHere σ = some (-1, σ) := by
          unfold M_X3_cellHere
          rw [hB.2.1.2.2.2.1, if_neg z00, (b_start hB).2, bnd1_some, if_neg (show ¬ nI (ck (kTk u e P)) = 2 from ne 1 (by decide) (by decide) k1)]
        obtain ⟨_, f1⟩ := b_fail hB (f := 1) (Or.inl rfl)
        have f1 : M_X9_fail τ 1 = _ := f1
        rw [cH, bnd2_some, hg6, c_add b1 (by omega), bnd1_some, decide_eq_false k1, if_pos (show boI false = 0 from rfl), f1, bnd1_some]
        have hB2 : Bs u e n0 g l P fl 0 σ0 τ0 (adC σ g s 1 (-1)) τ := by
          unfold adC
          exact Bs.wS (Bs.wC (Bs.wC hB (by omega) (fun z => by omega) (fun z => by omega)) (by omega) (fun z => by omega) (fun z => by omega)) (by omega)
        have tk := b_take hB2 (k := 1) (by decide) (by decide)
        rw [if_neg k1] at tk
        have tk : M_X3_take (adC σ g s 1 (-1)) 2 = _ := tk
        exact ⟨_, _, _, rfl, tk, rfl, Or.inr ⟨hB2.fault (Or.inl rfl), flC_25 ((adC_o (by omega) (by omega) (by omega)).trans w1)⟩⟩
end EV
