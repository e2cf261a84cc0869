/-! a refusal counted -/
theorem Mid.refuse {T : Td} {g0 g : Gs} {σ1 τ0 σ τ : Wd} {s : Nat} (h : Mid T g0 σ1 τ0 g σ τ) (hs : s < 4) : ∃ g' σ' τ', M_X1_refuse σ (nI s) = some σ' ∧ M_X9_refused τ (nI s) = some (-2, τ') ∧ Mid T g0 σ1 τ0 g' σ' τ' ∧ (∀ a x y, g'.1 a x y = g.1 a x y) ∧ (∀ w, iX g' w = iX g w) := by
  have hI := h.2.2.2.2.2.2.1
  have hH := hI.1.2.2.2.1
  have hW := hI.1.1
  have hO := hI.1.2.1
  have e1 : (gL σ 29 (48 + s)).toInt32 = iRf g s := (h.2.2.2.1.2.2.2 s hs).2.1
  have e2 : gI τ 26 (50 + 14 * s + 1) = iRf g s := (h.2.2.2.2.2.1.2.2.2.1 s hs).2.1
  have ec : ∀ j c v, iC (uV g 5 s v) j c = if j = 4 ∧ c = s then v else iC g j c := fun j c v => by
    by_cases hh : j = 4 ∧ c = s
    · rw [if_pos hh]; exact if_pos ⟨by omega, hh.2⟩
    · rw [if_neg hh]; exact uV_o (by omega)
  refine ⟨uV g 5 s (iRf g s + 1), uL σ 29 (48 + s) (gL σ 29 (48 + s) + 1), uI τ 26 (50 + 14 * s + 1) (iRf g s + 1), ?_, ?_, h.up ?_ ?_ ?_ ?_ ?_ rfl rfl (fun q => q), fun a x y => rfl, fun w => rfl⟩
  · unfold M_X1_refuse
    rw [show (48 : Int32) = nI 48 from rfl, nI_add, chk_pos ((ib_nI (by omega)).mpr (by omega)), chk_pos ((ib_nI (by omega)).mpr (by omega)), ix_nI (by omega)]
    rfl
  · unfold M_X9_refused
    rw [b50, show nI (50 + 14 * s) + 1 = nI (50 + 14 * s + 1) from nI_1 _, chk_pos ((ib_nI (by omega)).mpr (by omega)), chk_pos ((ib_nI (by omega)).mpr (by omega)), ix_nI (by omega), e2]
    rfl
  · refine ⟨by omega, by omega, by omega, by omega, by omega, by omega, by intro k hk e; have : k < 8 := Nat.lt_of_lt_of_le hk hH; omega, fun c hc => ⟨by omega, by omega, by omega, by omega, by omega, by omega⟩, fun s' hs' => ⟨by omega, fun e => ?_, by omega, fun o ho => ⟨by omega, by omega⟩⟩⟩
    obtain rfl : s' = s := by omega
    rw [Int64.toInt32_add, e1]
    exact (uV_s (g := g) (t := 5)).symm
  · intro j x hj q
    obtain ⟨q1, q2, q3, q4, q5, q6, q7, q8, q9⟩ := q
    refine ⟨q1, q2, q3, q4, q5, q6, q7, q8, fun s' hs' => ⟨(q9 s' hs').1, fun e => ?_, (q9 s' hs').2.2⟩⟩
    rw [show iRf (uV g 5 s (iRf g s + 1)) s' = iRf g s' from uV_o (by omega)]
    exact (q9 s' hs').2.1 e
  · refine ⟨by omega, by omega, by omega, by omega, by omega, by intro k hk e; have : k < 8 := Nat.lt_of_lt_of_le hk hH; omega, fun c hc => ⟨by omega, fun i hi e => by omega⟩, fun s' hs' => ⟨by omega, fun e => ?_, by omega, fun o ho => ⟨by omega, by omega⟩⟩, fun w hw => ⟨by omega, by omega, by omega, by omega, by omega⟩, fun i hi => ⟨by omega, by omega⟩, fun c w hc hw e => by omega⟩
    obtain rfl : s' = s := by omega
    exact (uV_s (g := g) (t := 5)).symm
  · intro j x hj q
    obtain ⟨q1, q2, q3, q4, q5, q6, q7, q8, q9, q10, q11⟩ := q
    refine ⟨q1, q2, q3, q4, q5, q6, fun c hc => ⟨(q7 c hc).1, fun i hi e => ?_⟩, fun s' hs' => ⟨(q8 s' hs').1, fun e => ?_, (q8 s' hs').2.2⟩, q9, q10, q11⟩
    · rw [ec, if_neg (by omega)]; exact (q7 c hc).2 i hi e
    · rw [show iRf (uV g 5 s (iRf g s + 1)) s' = iRf g s' from uV_o (by omega)]
      exact (q8 s' hs').2.1 e
  · obtain ⟨i1, i2, i3, i4, i5, i6, i7, i8, i9, i10, i11, i12, i13, i14⟩ := hI
    exact ⟨i1, i2, i3, i4, i5, i6, i7, i8, i9, i10, i11, i12, fun j c hj z1 z2 => by rw [ec, if_neg (by omega)]; exact i13 j c hj z1 z2, i14⟩
