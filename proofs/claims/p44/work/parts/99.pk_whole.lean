/-! an expression on both sides, whole -/
section EW
variable {u : Nat → Nat} {e n0 g l P fl a nc m mc : Nat} {NV NA : Nat → Nat} {σ0 τ0 σ τ : Wd}
theorem expr_all (he : e ≤ 2000) {v : Nat} (hv : v < 24) (hB : Bs u e n0 g l P fl 0 σ0 τ0 σ τ) (hN : Nm m mc nc fl NV NA σ τ) (h13 : gI σ g 13 = nI a) (h33 : gI τ 0 33 = nI (420 * l + a)) (h12 : gI τ 0 12 = 0) (haP : a < P) : ∃ σ' τ', M_X3_takeExpression σ (nI v) = some σ' ∧ M_X9_expression τ = some τ' ∧ (FLT g l σ0 τ0 σ' τ' ∨ ExE u e n0 g l P fl a nc v σ0 τ0 (uI (uI σ (g + 5) v (nI a)) 2 5 0) (uI τ 0 37 0) σ' τ') := by
  have hg := hB.2.1.2.2.2.2.2.1
  have hg6 := hB.2.1.2.2.2.2.1
  have cv24 : ib (nI v) 24 := (ib_nI (by omega)).mpr hv
  have hB2 : Bs u e n0 g l P fl 0 σ0 τ0 (uI (uI σ (g + 5) v (nI a)) 2 5 0) (uI τ 0 37 0) := Bs.wM (Bs.wC (Bs.wC hB (by omega) (fun z => by omega) (fun z => by omega)) (by omega) (fun z => ⟨by decide, by decide, by decide⟩) (fun z => by omega)) (by unfold okm; omega) (fun _ => ⟨by decide, by decide, by decide, by decide⟩)
  have hN2 : Nm m mc nc fl NV NA (uI (uI σ (g + 5) v (nI a)) 2 5 0) (uI τ 0 37 0) := Nm_eq (σ' := uI (uI σ (g + 5) v (nI a)) 2 5 0) (τ' := uI τ 0 37 0) hN (by rw [gI_uI, if_neg (by omega), gI_uI, if_neg (by omega)]) (by rw [gI_uI, if_neg (by omega)]) rfl (by funext j; show gI (uI (uI σ (g + 5) v (nI a)) 2 5 0) 4 j = gI σ 4 j; rw [gI_uI, if_neg (by omega), gI_uI, if_neg (by omega)]) rfl (by funext j; show gI (uI τ 0 37 0) 9 j = gI τ 9 j; rw [gI_uI, if_neg (by omega)]) (fun z => z)
  obtain ⟨σx, x, y1, y2, y3⟩ := expr_loop he hB2 hN2 (a := a) (by rw [gI_uI, if_neg (by omega), gI_uI, if_neg (by omega)]; exact h13) (by rw [gI_uI, if_neg (by omega)]; exact h33) (by rw [gI_uI, if_neg (by omega)]; exact h12) gI_s gI_s haP (v := nI v)
  have eC : M_X3_takeExpression σ (nI v) = M_X3_takeExpression_J196 σx (nI v) := by
    unfold M_X3_takeExpression
    rw [hg6, chk_pos hg, chk_pos hg, chk_pos cv24, ix_nI (by omega), h13]
    simp only [lt_eq]
    rw [show iter (fun s : Int32 × Int32 × Int32 × Int32 × Wd => M_X3_takeExpression_L31 (nI v) s.1 s.2.1 s.2.2.1 s.2.2.2.1 s.2.2.2.2) FU ((0 : Int32), (1 : Int32), (1 : Int32), (0 : Int32), uI (uI σ (g + 5) v (nI a)) 2 5 0) = some σx from y1, bnd1_some]
    rfl
  have eM : M_X9_expression τ = finM x := by
    unfold M_X9_expression
    simp only [lt_eq]
    rw [show gI (uI τ 0 37 0) 0 12 = 0 by rw [gI_uI, if_neg (by omega)]; exact h12, show iter (fun s : Int32 × Wd => M_X9_expression_L12 0 s.1 s.2) FU ((1 : Int32), uI τ 0 37 0) = some x from y2, bnd1_some]
    rfl
  rw [eC, eM]
  rcases y3 with ⟨τx, P', fl', s, w, W, cs, rfl, z1, z2, z3⟩ | ⟨τx, w, z1, z2, z3, z4⟩
  · obtain ⟨s', w', cs', σy, τy, q1, q2, q3, q4, q5⟩ := z3.outs (r := 1) (v := 0) (Or.inl rfl) rfl
    have hw0 : w' = 0 := by
      rcases q5 with q | q
      · exact q
      · refine Classical.byContradiction fun hne => ?_
        obtain ⟨_, _, _, c4, _, _⟩ := q4.2.2.1
        obtain ⟨w2, rfl⟩ : ∃ w2, w' = w2 + 1 := ⟨w' - 1, by omega⟩
        rw [Nat.add_sub_cancel] at q
        rw [pnN_s] at c4
        have h6 : W w2 ≠ 6 := fun z => by rw [if_pos z] at c4; omega
        have : 1 ≤ rkW (W w2) := by
          unfold rkW
          rw [if_neg h6]
          split <;> omega
        omega
    subst hw0
    obtain ⟨hBy, ⟨e1, e2, e3, e4, e5⟩, _, hCP, hS, hSM⟩ := q4
    have hgy := hBy.2.1.2.2.2.2.1
    refine ⟨uI σy (g + 6) v (nI s'), τy, c_J196 (n0 := v) hv q2 hgy hg e1, ?_, Or.inr ⟨P', fl', s', cs', z1, Bs.wC hBy (by omega) (fun z => by omega) (fun z => by omega), ?_, e2, e3, e4, by omega, z2, fun z => ?_, gI_s, ⟨σy, hS, rfl⟩, hSM⟩⟩
    · show (if gI τx 0 12 ≤ 0 then M_X9_expression_J204 τx else bnd1 (M_X9_fail τx 1) fun s_201 => M_X9_expression_J204 s_201) = _
      rw [z3.2.1.2.2.1, if_pos (show nI 0 ≤ 0 by decide)]
      unfold M_X9_expression_J204
      rw [q3, bnd1_some]
    · rw [gI_uI, if_neg (by omega)]; exact e1
    · obtain ⟨a1, a2, a3, a4⟩ := hCP z
      have r7 : (uI σy (g + 6) v (nI s')).1 (g + 7) = σy.1 (g + 7) := by
        funext j; show gI (uI σy (g + 6) v (nI s')) (g + 7) j = gI σy (g + 7) j; rw [gI_uI, if_neg (by omega)]
      have r8 : (uI σy (g + 6) v (nI s')).1 (g + 8) = σy.1 (g + 8) := by
        funext j; show gI (uI σy (g + 6) v (nI s')) (g + 8) j = gI σy (g + 8) j; rw [gI_uI, if_neg (by omega)]
      refine ⟨a1, ?_, a3, wfR_C _ _ a4⟩
      show CC cs' a ((uI σy (g + 6) v (nI s')).1 (g + 7)) ((uI σy (g + 6) v (nI s')).1 (g + 8))
      rw [r7, r8]; exact a2
  · obtain ⟨σf, τf, q1, q2, q3, q4, q5, q6⟩ := z2
    obtain ⟨σy, t1, t2⟩ := F_letOut q5 z3 z4 1
    exact ⟨_, τx, c_J196 (n0 := v) hv t1 t2.2.2.2.2.1 hg rfl, z1, Or.inl ⟨σf, τf, q1, q2, q3, q4, CFT.wI (by omega) (by omega) (by omega) (by omega) t2, q6⟩⟩
end EW
