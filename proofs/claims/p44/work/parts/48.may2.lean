/-! refusals on both sides; may -/
section QA
variable {T : Td} {t l : Nat} {g : Gs} {σ τ : Wd}
theorem b50 {s : Nat} : (50 : Int32) + 14 * nI s = nI (50 + 14 * s) := by
  rw [show (50 : Int32) = nI 50 from rfl, show (14 : Int32) = nI 14 from rfl, pk_mul, nI_add]
theorem q_mayAsk (h : Qd T t l g σ τ) {s c : Nat} (hs : s < 4) (hc : c < 5) : ∃ ra rm : Int32, M_X1_refusesAsk σ (nI s) (nI c) = some ra ∧ M_X9_mayAsk τ (nI s) (nI c) = some rm ∧ (ra = 0 ∧ rm = 1 ∨ ra = 1 ∧ rm = 0) := by
  obtain ⟨q15, qM, fE, fU, mE, mU⟩ := q_sess h hs
  obtain ⟨b1, b11, b12, b13⟩ := c_breaks (m := 1) (b := 76) h hs hc (by omega) fU
  obtain ⟨b2, b21, b22, b23⟩ := c_breaks (m := 2) (b := 56) h hs hc (by omega) fE
  obtain ⟨n1, n11, n12, n13⟩ := m_behind (b := 50 + 14 * s + 8) h hc (by omega) mU
  obtain ⟨n2, n21, n22, n23⟩ := m_behind (b := 50 + 14 * s + 3) h hc (by omega) mE
  have i1 : b1 = 1 ↔ gQ g s % 2 = 1 ∧ n1 = 1 := b12.trans (and_congr (bt_1 ⟨gQ g s, by omega⟩) n12.symm)
  have i2 : b2 = 1 ↔ gQ g s / 2 % 2 = 1 ∧ n2 = 1 := b22.trans (and_congr (bt_2 ⟨gQ g s, by omega⟩) n22.symm)
  have z1 : nI (gQ g s % 2) ≠ 1 ↔ gQ g s % 2 ≠ 1 := nI_ne (b := 1) (by omega) (by decide)
  have z2 : nI (gQ g s / 2 % 2) ≠ 1 ↔ gQ g s / 2 % 2 ≠ 1 := nI_ne (b := 1) (by omega) (by decide)
  unfold M_X1_refusesAsk M_X9_mayAsk
  simp only [lt_eq]
  rw [b50, show nI (50 + 14 * s) + 0 = nI (50 + 14 * s) from nI_add _ 0, chk_pos ((ib_nI (by omega)).mpr (by omega)), ix_nI (by omega), qM, chk_pos (by decide), show (2 : Int32) = nI 2 from rfl, pk_rem (by omega) (by decide) (by decide), show nI (50 + 14 * s) + 8 = nI (50 + 14 * s + 8) from nI_add _ 8, n13, bnd1_some, show (76 : Int32) = nI 76 from rfl, b13, bnd1_some, show nI 2 = 2 from rfl, show (56 : Int32) = nI 56 from rfl, b23, bnd1_some]
  have eJ : M_X9_mayAsk_J38 τ (nI c) (nI (50 + 14 * s)) (nI (gQ g s)) = some (if b2 = 1 then 0 else 1) := by
    unfold M_X9_mayAsk_J38
    rw [chk_pos (by decide), chk_pos (by decide), show (2 : Int32) = nI 2 from rfl, pk_div (by omega) (by decide) (by decide), pk_rem (by omega) (by decide) (by decide), show nI (50 + 14 * s) + 3 = nI (50 + 14 * s + 3) from nI_add _ 3, n23, bnd1_some]
    by_cases A : gQ g s / 2 % 2 = 1
    · rw [if_neg (fun z => z2.mp z A)]
      rcases n21 with e | e
      · rw [e, if_neg (by decide), if_neg (fun z => by have := (i2.mp z).2; rw [e] at this; exact absurd this (by decide))]
      · rw [e, if_pos (by decide), if_pos (i2.mpr ⟨A, e⟩)]
    · rw [if_pos (z2.mpr A), if_neg (fun z => A (i2.mp z).1)]
  rw [eJ]
  by_cases A : gQ g s % 2 = 1 ∧ n1 = 1
  · rw [i1.mpr A, if_pos (show (1 : Int32) ≠ 0 by decide), if_neg (fun z => z1.mp z A.1), A.2, if_pos (show (1 : Int32) ≠ 0 by decide)]
    exact ⟨1, 0, rfl, rfl, Or.inr ⟨rfl, rfl⟩⟩
  · have hb1 : b1 = 0 := b11.resolve_right (fun z => A (i1.mp z))
    have eM : (if nI (gQ g s % 2) ≠ 1 then some (if b2 = 1 then (0 : Int32) else 1) else if n1 ≠ 0 then some 0 else some (if b2 = 1 then 0 else 1)) = some (if b2 = 1 then 0 else 1) := by
      by_cases B : gQ g s % 2 = 1
      · have hn1 : n1 = 0 := n11.resolve_right (fun z => A ⟨B, z⟩)
        rw [if_neg (fun z => z1.mp z B), hn1, if_neg (show ¬ (0 : Int32) ≠ 0 by decide)]
      · rw [if_pos (z1.mpr B)]
    rw [eM, hb1, if_neg (show ¬ (0 : Int32) ≠ 0 by decide)]
    rcases b21 with e | e
    · rw [e, if_pos rfl]
      exact ⟨0, 1, rfl, rfl, Or.inl ⟨rfl, rfl⟩⟩
    · rw [e, if_neg n10]
      exact ⟨1, 0, rfl, rfl, Or.inr ⟨rfl, rfl⟩⟩
theorem q_mayMake (h : Qd T t l g σ τ) {s c : Nat} (hs : s < 4) (hc : c < 5) : ∃ ra rm : Int32, M_X1_refusesMake σ (nI s) (nI c) = some ra ∧ M_X9_mayMake τ (nI s) (nI c) = some rm ∧ (ra = 0 ∧ rm = 1 ∨ ra = 1 ∧ rm = 0) := by
  obtain ⟨q15, qM, fE, fU, mE, mU⟩ := q_sess h hs
  obtain ⟨b1, b11, b12, b13⟩ := c_breaks (m := 4) (b := 56) h hs hc (by omega) fE
  obtain ⟨b2, b21, b22, b23⟩ := c_breaks (m := 8) (b := 76) h hs hc (by omega) fU
  obtain ⟨n1, n11, n12, n13⟩ := m_behind (b := 50 + 14 * s + 3) h hc (by omega) mE
  obtain ⟨n2, n21, n22, n23⟩ := m_behind (b := 50 + 14 * s + 8) h hc (by omega) mU
  have i1 : b1 = 1 ↔ gQ g s / 4 % 2 = 1 ∧ n1 = 1 := b12.trans (and_congr (bt_4 ⟨gQ g s, by omega⟩) n12.symm)
  have i2 : b2 = 1 ↔ gQ g s / 8 = 1 ∧ n2 = 1 := b22.trans (and_congr (bt_8 ⟨gQ g s, by omega⟩) n22.symm)
  have z1 : nI (gQ g s / 4 % 2) ≠ 1 ↔ gQ g s / 4 % 2 ≠ 1 := nI_ne (b := 1) (by omega) (by decide)
  have z2 : nI (gQ g s / 8) ≠ 1 ↔ gQ g s / 8 ≠ 1 := nI_ne (b := 1) (by omega) (by decide)
  unfold M_X1_refusesMake M_X9_mayMake
  simp only [lt_eq]
  rw [b50, show nI (50 + 14 * s) + 0 = nI (50 + 14 * s) from nI_add _ 0, chk_pos ((ib_nI (by omega)).mpr (by omega)), ix_nI (by omega), qM, chk_pos (by decide), chk_pos (by decide), show nI (gQ g s) / 4 = nI (gQ g s / 4) from pk_div (d := 4) (by omega) (by decide) (by decide), show nI (gQ g s / 4) - nI (gQ g s / 4) / 2 * 2 = nI (gQ g s / 4 % 2) from pk_rem (d := 2) (by omega) (by decide) (by decide), show nI (50 + 14 * s) + 3 = nI (50 + 14 * s + 3) from nI_add _ 3, n13, bnd1_some, show (76 : Int32) = nI 76 from rfl, show (56 : Int32) = nI 56 from rfl, b13, bnd1_some, b23, bnd1_some]
  have eJ : M_X9_mayMake_J39 τ (nI c) (nI (50 + 14 * s)) (nI (gQ g s)) = some (if b2 = 1 then 0 else 1) := by
    unfold M_X9_mayMake_J39
    rw [chk_pos (by decide), show nI (gQ g s) / 8 = nI (gQ g s / 8) from pk_div (d := 8) (by omega) (by decide) (by decide), show nI (50 + 14 * s) + 8 = nI (50 + 14 * s + 8) from nI_add _ 8, n23, bnd1_some]
    by_cases A : gQ g s / 8 = 1
    · rw [if_neg (fun z => z2.mp z A)]
      rcases n21 with e | e
      · rw [e, if_neg (by decide), if_neg (fun z => by have := (i2.mp z).2; rw [e] at this; exact absurd this (by decide))]
      · rw [e, if_pos (by decide), if_pos (i2.mpr ⟨A, e⟩)]
    · rw [if_pos (z2.mpr A), if_neg (fun z => A (i2.mp z).1)]
  rw [eJ]
  by_cases A : gQ g s / 4 % 2 = 1 ∧ n1 = 1
  · rw [i1.mpr A, if_pos (show (1 : Int32) ≠ 0 by decide), if_neg (fun z => z1.mp z A.1), A.2, if_pos (show (1 : Int32) ≠ 0 by decide)]
    exact ⟨1, 0, rfl, rfl, Or.inr ⟨rfl, rfl⟩⟩
  · have hb1 : b1 = 0 := b11.resolve_right (fun z => A (i1.mp z))
    have eM : (if nI (gQ g s / 4 % 2) ≠ 1 then some (if b2 = 1 then (0 : Int32) else 1) else if n1 ≠ 0 then some 0 else some (if b2 = 1 then 0 else 1)) = some (if b2 = 1 then 0 else 1) := by
      by_cases B : gQ g s / 4 % 2 = 1
      · have hn1 : n1 = 0 := n11.resolve_right (fun z => A ⟨B, z⟩)
        rw [if_neg (fun z => z1.mp z B), hn1, if_neg (show ¬ (0 : Int32) ≠ 0 by decide)]
      · rw [if_pos (z1.mpr B)]
    rw [eM, hb1, if_neg (show ¬ (0 : Int32) ≠ 0 by decide)]
    rcases b21 with e | e
    · rw [e, if_pos rfl]
      exact ⟨0, 1, rfl, rfl, Or.inl ⟨rfl, rfl⟩⟩
    · rw [e, if_neg n10]
      exact ⟨1, 0, rfl, rfl, Or.inr ⟨rfl, rfl⟩⟩
end QA
