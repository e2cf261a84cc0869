/-! the place in the order; who knows; write -/
section QX
variable {T : Td} {t l : Nat} {g : Gs} {σ τ : Wd}
theorem m2_neg : ((-2 : Int32) < 0) := by decide
theorem q_place (h : Qd T t l g σ τ) {w : Nat} (hw : w < gW g) : ∃ r, M_X1_placeInOrder σ (nI w) = some r ∧ M_X9_ofWrite τ (nI w) 4 = some r ∧ ((∃ i, i < gO g ∧ gD g i = w ∧ r = nI i) ∨ ((∀ i, i < gO g → gD g i ≠ w) ∧ r = -2)) := by
  obtain ⟨hW, hO, hP, hn⟩ := q_bd h
  have hI := h.2.2.2.2.1
  have hD := hI.2.2.2.2.2.2.2.1
  have hinj := hI.2.2.2.2.2.2.2.2.1
  have hM := h.2.2.2.1
  have e4 : M_X9_ofWrite τ (nI w) 4 = some (gI τ 26 (110 + 5 * w + 4)) := m_ofWrite (k := 4) (by omega) (by decide)
  obtain ⟨x, h1, r, h2, h3⟩ := ow_iter (body := fun s : Int32 => M_X1_placeInOrder_L2 σ (nI w) s) (Q := fun x => ∃ r, sx (un0 (some (-2 : Int32))) (fun q => some q) x = some r ∧ ((∃ i, i < gO g ∧ gD g i = w ∧ r = nI i) ∨ ((∀ i, i < gO g → gD g i ≠ w) ∧ r = -2))) (fun k s => ∃ i, i ≤ gO g ∧ k = gO g - i ∧ s = nI i ∧ ∀ j, j < i → gD g j ≠ w) (fun k s ⟨i, hi, hk, hs, hj⟩ => by
    subst hs
    show ow (M_X1_placeInOrder_L2 σ (nI w) (nI i)) _
    unfold M_X1_placeInOrder_L2
    rw [q_ordered h, bnd1_some]
    by_cases h0 : gO g ≤ i
    · rw [if_pos ((nI_leI (by omega) (by omega)).mpr h0)]
      refine ow_some.mpr ⟨-2, rfl, Or.inr ⟨fun j hj2 => hj j (by omega), rfl⟩⟩
    · have hDi := hD i (by omega)
      rw [if_neg (fun z => h0 ((nI_leI (by omega) (by omega)).mp z)), chk_pos ((ib_nI (by omega)).mpr (by omega)), ix_nI (by omega), show gI σ 34 i = nI (gD g i) from h.2.2.1.2 i (by omega), nI_1]
      simp only [lt_eq]
      by_cases he : gD g i = w
      · rw [if_neg (show ¬ nI (gD g i) ≠ nI w from fun z => z (by rw [he]))]
        exact ow_some.mpr ⟨nI i, rfl, Or.inl ⟨i, by omega, he, rfl⟩⟩
      · rw [if_pos (show nI (gD g i) ≠ nI w from fun z => he ((nI_eq (by omega) (by omega)).mp z))]
        refine ow_some.mpr ⟨gO g - (i + 1), by omega, i + 1, by omega, rfl, rfl, fun j hj2 => ?_⟩
        by_cases hji : j = i
        · subst hji; exact he
        · exact hj j (by omega)) FU (gO g) (0 : Int32) (FU_big (by omega)) ⟨0, Nat.zero_le _, rfl, rfl, fun j hj => absurd hj (by omega)⟩
  refine ⟨r, ?_, ?_, h3⟩
  · unfold M_X1_placeInOrder
    rw [show iter (fun s : Int32 => M_X1_placeInOrder_L2 σ (nI w) s) FU (0 : Int32) = some x from h1, bnd1_some]
    exact h2
  · rw [e4]
    rcases h3 with ⟨i, hi, he, rfl⟩ | ⟨hno, rfl⟩
    · have := (hM.2.2.2.2.2.1 i hi).2
      rw [he] at this
      exact congrArg some this
    · exact congrArg some ((hM.2.2.2.2.1 w hw).2.2.2.2 hno)
theorem q_known (h : Qd T t l g σ τ) {c : Nat} (hc : c < 5) : M_X1_knownOf σ (nI c) = some (nI (gK g c)) ∧ M_X9_ofCopy τ (nI c) 0 = some (nI (gK g c)) := ⟨c_knownOf hc (h.2.1.2.2.1 c hc).2.1, (m_ofCopy (k := 0) hc (by decide)).trans (congrArg some (h.2.2.2.1.2.2.1 c hc).1)⟩
theorem mk_0 : ∀ n, mkN (fun _ => false) n = 0 := by
  intro n
  induction n with
  | zero => rfl
  | succ n ih => show (if false = true then _ else _) = _; rw [if_neg (by decide)]; exact ih
theorem q_knowers (h : Qd T t l g σ τ) {w : Nat} (hw : w < gW g) : ∃ r, M_X1_knowers σ (nI w) = some r ∧ iter (fun s : Int32 × Int32 => M_X9_write_L129 τ (nI w) s.1 s.2) FU ((0 : Int32), (0 : Int32)) = some r := by
  obtain ⟨hW, hO, hP, hn⟩ := q_bd h
  obtain ⟨k1, k2, k3⟩ := q_18 h
  have hI := h.2.2.2.2.1
  have hKO : ∀ c, c < 5 → gK g c ≤ 60 := fun c hc => by have := hI.2.2.1 c hc; omega
  obtain ⟨r, p1, p2, p3⟩ := q_place h hw
  unfold M_X1_knowers
  rw [p1, bnd1_some]
  have mk : ∀ c, c < 5 → M_X9_isKnown τ (nI c) (nI w) = if r < 0 then some 0 else if nI (gK g c) ≤ r then some 0 else some 1 := fun c hc => by
    unfold M_X9_isKnown
    rw [p2, bnd1_some, (q_known h hc).2, bnd1_some, bnd1_some]
  rcases p3 with ⟨j, hj, he, rfl⟩ | ⟨hno, rfl⟩
  · refine ⟨mkN (fun c => decide (j < gK g c)) (tN T), ?_, ?_⟩
    · obtain ⟨x, h1, h2⟩ := ow_for (body := fun s : Int32 × Int32 => M_X1_knowers_L11 σ (nI j) s.1 s.2) (Q := fun x => x = mkN (fun c => decide (j < gK g c)) (tN T)) (fun i s => s = (mkN (fun c => decide (j < gK g c)) i, nI i)) (tN T) (FU_big (by omega)) (fun i s hi hs => by
        subst hs
        show ow (M_X1_knowers_L11 σ (nI j) (mkN (fun c => decide (j < gK g c)) i) (nI i)) _
        unfold M_X1_knowers_L11
        have e1 : mkN (fun c => decide (j < gK g c)) (i + 1) = if decide (j < gK g i) = true then mkN (fun c => decide (j < gK g c)) i ||| ((1 : Int32) <<< (nI i &&& 31)) else mkN (fun c => decide (j < gK g c)) i := rfl
        have hK := hKO i (by omega)
        rw [q_copies h, bnd1_some, if_neg (fun z => by have := (nI_leI (by omega) (by omega)).mp z; omega), if_neg (fun z : nI j = -2 => nI_n0 (show j < 2 ^ 31 by omega) (z ▸ m2_neg)), (q_known h (by omega)).1, bnd1_some, nI_1]
        simp only [lt_eq]
        by_cases hA : gK g i ≤ j
        · rw [if_pos ((nI_leI (by omega) (by omega)).mpr hA)]
          refine ow_some.mpr ?_
          show _ = _
          rw [e1, if_neg (by simp; omega)]
        · rw [if_neg (fun z => hA ((nI_leI (by omega) (by omega)).mp z))]
          refine ow_some.mpr ?_
          show _ = _
          rw [e1, if_pos (by simp; omega)]) (fun s hs => by
        subst hs
        show ow (M_X1_knowers_L11 σ (nI j) (mkN (fun c => decide (j < gK g c)) (tN T)) (nI (tN T))) _
        unfold M_X1_knowers_L11
        rw [q_copies h, bnd1_some, if_pos ((nI_leI (by omega) (by omega)).mpr (Nat.le_refl _))]
        exact ow_some.mpr rfl) 0 ((0 : Int32), (0 : Int32)) (Nat.zero_le _) rfl
      rw [show iter (fun s : Int32 × Int32 => M_X1_knowers_L11 σ (nI j) s.1 s.2) FU ((0 : Int32), (0 : Int32)) = some x from h1, bnd1_some]
      exact congrArg some h2
    · obtain ⟨x, h1, h2⟩ := ow_for (body := fun s : Int32 × Int32 => M_X9_write_L129 τ (nI w) s.1 s.2) (Q := fun x => x = mkN (fun c => decide (j < gK g c)) (tN T)) (fun i s => s = (mkN (fun c => decide (j < gK g c)) i, nI i)) (tN T) (FU_big (by omega)) (fun i s hi hs => by
        subst hs
        show ow (M_X9_write_L129 τ (nI w) (mkN (fun c => decide (j < gK g c)) i) (nI i)) _
        unfold M_X9_write_L129
        have e1 : mkN (fun c => decide (j < gK g c)) (i + 1) = if decide (j < gK g i) = true then mkN (fun c => decide (j < gK g c)) i ||| ((1 : Int32) <<< (nI i &&& 31)) else mkN (fun c => decide (j < gK g c)) i := rfl
        have hK := hKO i (by omega)
        rw [k1, chk_pos ((ib_nI (by omega)).mpr k2), ix_nI (by omega), k3, if_neg (fun z => by have := (nI_leI (by omega) (by omega)).mp z; omega), mk i (by omega), if_neg (nI_n0 (by omega)), nI_1]
        simp only [lt_eq]
        by_cases hA : gK g i ≤ j
        · rw [if_pos ((nI_leI (by omega) (by omega)).mpr hA), bnd1_some, if_pos rfl]
          refine ow_some.mpr ?_
          show _ = _
          rw [e1, if_neg (by simp; omega)]
        · rw [if_neg (fun z => hA ((nI_leI (by omega) (by omega)).mp z)), bnd1_some, if_neg n10]
          refine ow_some.mpr ?_
          show _ = _
          rw [e1, if_pos (by simp; omega)]) (fun s hs => by
        subst hs
        show ow (M_X9_write_L129 τ (nI w) (mkN (fun c => decide (j < gK g c)) (tN T)) (nI (tN T))) _
        unfold M_X9_write_L129
        rw [k1, chk_pos ((ib_nI (by omega)).mpr k2), ix_nI (by omega), k3, if_pos ((nI_leI (by omega) (by omega)).mpr (Nat.le_refl _))]
        exact ow_some.mpr rfl) 0 ((0 : Int32), (0 : Int32)) (Nat.zero_le _) rfl
      rw [show iter (fun s : Int32 × Int32 => M_X9_write_L129 τ (nI w) s.1 s.2) FU ((0 : Int32), (0 : Int32)) = some x from h1, h2]
  · refine ⟨0, ?_, ?_⟩
    · have e : M_X1_knowers_L11 σ (-2) 0 0 = some (.inr 0) := by
        unfold M_X1_knowers_L11
        rw [q_copies h, bnd1_some, if_neg (show ¬ nI (tN T) ≤ 0 from fun z => by have := (nI_leI (b := 0) (by omega) (by decide)).mp z; omega), if_pos rfl]
      obtain ⟨m, hm⟩ : ∃ m, FU = m + 1 := ⟨999999, by unfold FU; omega⟩
      rw [hm, it_x (x := 0) (by exact e), bnd1_some]
      rfl
    · obtain ⟨x, h1, h2⟩ := ow_for (body := fun s : Int32 × Int32 => M_X9_write_L129 τ (nI w) s.1 s.2) (Q := fun x => x = 0) (fun i s => s = ((0 : Int32), nI i)) (tN T) (FU_big (by omega)) (fun i s hi hs => by
        subst hs
        show ow (M_X9_write_L129 τ (nI w) 0 (nI i)) _
        unfold M_X9_write_L129
        rw [k1, chk_pos ((ib_nI (by omega)).mpr k2), ix_nI (by omega), k3, if_neg (fun z => by have := (nI_leI (by omega) (by omega)).mp z; omega), mk i (by omega), if_pos m2_neg, bnd1_some, if_pos rfl, nI_1]
        exact ow_some.mpr rfl) (fun s hs => by
        subst hs
        show ow (M_X9_write_L129 τ (nI w) 0 (nI (tN T))) _
        unfold M_X9_write_L129
        rw [k1, chk_pos ((ib_nI (by omega)).mpr k2), ix_nI (by omega), k3, if_pos ((nI_leI (by omega) (by omega)).mpr (Nat.le_refl _))]
        exact ow_some.mpr rfl) 0 ((0 : Int32), (0 : Int32)) (Nat.zero_le _) rfl
      rw [show iter (fun s : Int32 × Int32 => M_X9_write_L129 τ (nI w) s.1 s.2) FU ((0 : Int32), (0 : Int32)) = some x from h1, h2]
theorem q_isWrite (h : Qd T t l g σ τ) (v : Int32) : (∃ w, w < gW g ∧ v = nI w ∧ M_X8_isWrite σ v = some 1) ∨ M_X8_isWrite σ v = some 0 := by
  obtain ⟨hW, hO, hP, hn⟩ := q_bd h
  rcases bd_cases v (n := gW g) (by omega) with ⟨w, hw, rfl⟩ | ha
  · exact Or.inl ⟨w, hw, rfl, c_isWrite_t h.2.1.1.2.2.1 (by omega) hw⟩
  · exact Or.inr (c_isWrite_f h.2.1.1.2.2.1 ha)
end QX
theorem st_15 : Sp_15 Rel := by
  intro σ τ h a b
  obtain ⟨T, t, l, g0, h00, hC, hA, hM, hI⟩ := h.T
  have hW := hI.1.1
  unfold M_X8_write M_X9_write
  rcases bd_cases a (n := gW g0) (by omega) with ⟨w, hw, rfl⟩ | ha
  · rw [m_isWrite_t hM.1.1 (by omega) hw, bnd1_some, if_pos (show (1 : Int32) ≠ 0 by decide), c_isWrite_t hC.1.2.2.1 (by omega) hw, bnd1_some, if_pos (show (1 : Int32) ≠ 0 by decide)]
    obtain ⟨T', t', l', g, τ1, hc, hK, hR, hQ, hT⟩ := ask_start h
    have hgW : gW g = gW g0 := by
      obtain ⟨hW', _⟩ := q_bd hQ
      exact (nI_eq (by omega) (by omega)).mp ((lN32 hQ.2.1.1.2.2.1).symm.trans (lN32 hC.1.2.2.1))
    rw [← hgW] at hw hW
    have qa := q_arr hQ hw
    have qo := q_of hQ hw
    obtain ⟨r3, p1, p2, p3⟩ := q_place hQ hw
    obtain ⟨r5, s1, s2⟩ := q_knowers hQ hw
    rw [hc, bnd1_some, chk_pos ((ib_nI (by omega)).mpr (by omega)), chk_pos ((ib_nI (by omega)).mpr (by omega)), chk_pos ((ib_nI (by omega)).mpr (by omega)), ix_nI (by omega), qa.1, qa.2.2.1, qa.2.2.2, p1, bnd1_some, c_holders hQ (by omega), bnd1_some, s1, bnd1_some, qo.1, qo.2.2.1, qo.2.2.2, p2, m_holders hQ (by omega), s2]
    simp only [bnd1_some, un1]
    by_cases h0 : b = 0
    · rw [if_pos h0, if_pos h0]; exact ⟨_, _, rfl, rfl, hR⟩
    rw [if_neg h0, if_neg h0]
    by_cases h1 : b = 1
    · rw [if_pos h1, if_pos h1]; exact ⟨_, _, rfl, rfl, hR⟩
    rw [if_neg h1, if_neg h1]
    by_cases h2 : b = 2
    · rw [if_pos h2, if_pos h2]; exact ⟨_, _, rfl, rfl, hR⟩
    rw [if_neg h2, if_neg h2]
    by_cases h3 : b = 3
    · rw [if_pos h3, if_pos h3]; exact ⟨_, _, rfl, rfl, hR⟩
    rw [if_neg h3, if_neg h3]
    by_cases h4 : b = 4
    · rw [if_pos h4, if_pos h4]; exact ⟨_, _, rfl, rfl, hR⟩
    rw [if_neg h4, if_neg h4]
    by_cases h5 : b = 5
    · rw [if_pos h5, if_pos h5]; exact ⟨_, _, rfl, rfl, hR⟩
    rw [if_neg h5, if_neg h5]
    exact ⟨_, _, rfl, rfl, hR⟩
  · rw [c_isWrite_f hC.1.2.2.1 ha, bnd1_some, if_neg (by decide), m_isWrite_f hM.1.1 (by omega) ha, bnd1_some, if_neg (by decide)]
    exact ⟨_, _, rfl, rfl, h⟩
