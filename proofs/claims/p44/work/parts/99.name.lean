/-! names -/
def Nm (m mc nc fl : Nat) (NV NA : Nat → Nat) (σ τ : Wd) : Prop :=
  gI σ 2 3 = nI mc ∧ gI τ 0 20 = nI m ∧ m ≤ mc ∧ mc ≤ 12 ∧
  (∀ i, i < mc → gL σ 3 i = lN (cv 8 (NV i)) ∧ NV i < 27 ^ 8 ∧ gI σ 4 i = (if NA i < 10 then nI (NA i) else -1) ∧ (NA i < nc ∨ 10 ≤ NA i ∧ NA i < 20)) ∧
  (∀ i, i < m → gL τ 8 i = lN (NV i) ∧ gI τ 9 i = nI (NA i)) ∧ (∀ i, m ≤ i → i < mc → 10 ≤ NA i) ∧ nc ≤ 6 ∧
  (fl = 0 → ∀ i j, i < mc → j < mc → NV i = NV j → i = j)
theorem Nm_eq {m mc nc fl : Nat} {NV NA : Nat → Nat} {σ τ σ' τ' : Wd} (h : Nm m mc nc fl NV NA σ τ) (h1 : gI σ' 2 3 = gI σ 2 3) (h2 : gI τ' 0 20 = gI τ 0 20) (h3 : σ'.2.1 3 = σ.2.1 3) (h4 : σ'.1 4 = σ.1 4) (h5 : τ'.2.1 8 = τ.2.1 8) (h6 : τ'.1 9 = τ.1 9) {fl' : Nat} (hf : fl' = 0 → fl = 0) : Nm m mc nc fl' NV NA σ' τ' := by
  obtain ⟨a1, a2, a3, a4, a5, a6, a7, a8, a9⟩ := h
  refine ⟨h1.trans a1, h2.trans a2, a3, a4, fun i hi => ?_, fun i hi => ?_, a7, a8, fun z => a9 (hf z)⟩
  · obtain ⟨b1, b2, b3, b4⟩ := a5 i hi
    exact ⟨(congrFun h3 i).trans b1, b2, (congrFun h4 i).trans b3, b4⟩
  · obtain ⟨b1, b2⟩ := a6 i hi
    exact ⟨(congrFun h5 i).trans b1, (congrFun h6 i).trans b2⟩
section NM
variable {m mc nc fl : Nat} {NV NA : Nat → Nat} {σ τ : Wd}
theorem c_find (h : Nm m mc nc fl NV NA σ τ) {x : Nat} (hx : x < 27 ^ 8) : (∃ i, i < mc ∧ NV i = x ∧ M_X3_findName σ (lN (cv 8 x)) = some (nI i)) ∨ ((∀ i, i < mc → NV i ≠ x) ∧ M_X3_findName σ (lN (cv 8 x)) = some (-1)) := by
  obtain ⟨a1, a2, a3, a4, a5, a6, a7, a8, a9⟩ := h
  have q := ow_iter (body := fun s : Int32 => M_X3_findName_L2 σ (lN (cv 8 x)) s) (Q := fun y => (∃ i, i < mc ∧ NV i = x ∧ y = .inr (nI i)) ∨ ((∀ i, i < mc → NV i ≠ x) ∧ y = .inl ())) (fun k s => ∃ i, i ≤ mc ∧ k = mc - i ∧ s = nI i ∧ ∀ j, j < i → NV j ≠ x) (fun k s ⟨i, hi, hk, hs, hj⟩ => by
    subst hs
    show ow (M_X3_findName_L2 σ (lN (cv 8 x)) (nI i)) _
    unfold M_X3_findName_L2
    rw [a1]
    by_cases h0 : mc ≤ i
    · rw [if_pos ((nI_leI (by omega) (by omega)).mpr h0)]
      exact ow_some.mpr (Or.inr ⟨fun j h => hj j (by omega), rfl⟩)
    · obtain ⟨b1, b2, b3, b4⟩ := a5 i (by omega)
      rw [if_neg (fun z => h0 ((nI_leI (by omega) (by omega)).mp z)), chk_pos ((ib_nI (by omega)).mpr (by omega)), ix_nI (by omega), b1]
      simp only [lt_eq]
      rw [nI_1]
      by_cases hq : NV i = x
      · rw [if_neg (fun z => z ((lg_cmp_eq _ _).mpr (by rw [hq])))]
        exact ow_some.mpr (Or.inl ⟨i, by omega, hq, rfl⟩)
      · rw [if_pos (fun z => hq (cv_inj 8 _ _ b2 hx (lN_in (cv_lt 8 _) (cv_lt 8 _) ((lg_cmp_eq _ _).mp z))))]
        exact ow_some.mpr ⟨mc - (i + 1), by omega, i + 1, by omega, rfl, rfl, fun j h => by
          by_cases e0 : j = i
          · rw [e0]; exact hq
          · exact hj j (by omega)⟩) FU (mc - 0) (0 : Int32) (FU_big (by omega)) ⟨0, Nat.zero_le _, rfl, rfl, fun j h => absurd h (Nat.not_lt_zero j)⟩
  obtain ⟨y, h1, h2⟩ := q
  unfold M_X3_findName
  rw [show iter (fun s : Int32 => M_X3_findName_L2 σ (lN (cv 8 x)) s) FU (0 : Int32) = some y from h1, bnd1_some]
  rcases h2 with ⟨i, i1, i2, rfl⟩ | ⟨i1, rfl⟩
  · exact Or.inl ⟨i, i1, i2, rfl⟩
  · exact Or.inr ⟨i1, rfl⟩
theorem m_find (h : Nm m mc nc fl NV NA σ τ) {x w : Nat} (hx : x < 27 ^ 8) (hw : w < 403) (h6 : gL τ 6 w = lN x) : (∃ i, i < m ∧ NV i = x ∧ NA i < 10 ∧ iter (fun s : Int32 => M_X9_known_L21 τ (nI w) s) FU 0 = some (.inr (nI (NA i), τ))) ∨ ((∀ i, i < m → NV i = x → 10 ≤ NA i) ∧ iter (fun s : Int32 => M_X9_known_L21 τ (nI w) s) FU 0 = some (.inl ())) := by
  obtain ⟨a1, a2, a3, a4, a5, a6, a7, a8, a9⟩ := h
  have q := ow_iter (body := fun s : Int32 => M_X9_known_L21 τ (nI w) s) (Q := fun y => (∃ i, i < m ∧ NV i = x ∧ NA i < 10 ∧ y = .inr (nI (NA i), τ)) ∨ ((∀ i, i < m → NV i = x → 10 ≤ NA i) ∧ y = .inl ())) (fun k s => ∃ i, i ≤ m ∧ k = m - i ∧ s = nI i ∧ ∀ j, j < i → NV j = x → 10 ≤ NA j) (fun k s ⟨i, hi, hk, hs, hj⟩ => by
    subst hs
    show ow (M_X9_known_L21 τ (nI w) (nI i)) _
    unfold M_X9_known_L21
    rw [a2]
    by_cases h0 : m ≤ i
    · rw [if_pos ((nI_leI (by omega) (by omega)).mpr h0)]
      exact ow_some.mpr (Or.inr ⟨fun j h => hj j (by omega), rfl⟩)
    · obtain ⟨b1, b2, b3, b4⟩ := a5 i (by omega)
      obtain ⟨d1, d2⟩ := a6 i (by omega)
      have ci : ib (nI i) 12 := (ib_nI (by omega)).mpr (by omega)
      rw [if_neg (fun z => h0 ((nI_leI (by omega) (by omega)).mp z)), chk_pos ci, chk_pos ((ib_nI (by omega)).mpr hw), ix_nI (by omega), ix_nI (show w < 2 ^ 31 by omega), d1, h6, chk_pos ci, chk_pos ci, d2]
      simp only [lt_eq]
      rw [nI_1]
      have nx : NV i ≠ x → lg_cmp (lN (NV i)) (lN x) ≠ 0 := fun hq z => hq (lN_in (Nat.lt_of_lt_of_le b2 (by decide)) (Nat.lt_of_lt_of_le hx (by decide)) ((lg_cmp_eq _ _).mp z))
      by_cases hq : NV i = x
      · rw [if_neg (fun z => z ((lg_cmp_eq _ _).mpr (by rw [hq])))]
        by_cases h10 : 10 ≤ NA i
        · rw [if_pos (show (10 : Int32) ≤ nI (NA i) from (nI_leI (a := 10) (by omega) (by omega)).mpr h10)]
          exact ow_some.mpr ⟨m - (i + 1), by omega, i + 1, by omega, rfl, rfl, fun j h he => by
            by_cases e0 : j = i
            · rw [e0]; exact h10
            · exact hj j (by omega) he⟩
        · rw [if_neg (show ¬ (10 : Int32) ≤ nI (NA i) from fun z => h10 ((nI_leI (a := 10) (by omega) (by omega)).mp z))]
          exact ow_some.mpr (Or.inl ⟨i, by omega, hq, by omega, rfl⟩)
      · rw [if_pos (nx hq)]
        exact ow_some.mpr ⟨m - (i + 1), by omega, i + 1, by omega, rfl, rfl, fun j h he => by
          by_cases e0 : j = i
          · rw [e0] at he; exact absurd he hq
          · exact hj j (by omega) he⟩) FU (m - 0) (0 : Int32) (FU_big (by omega)) ⟨0, Nat.zero_le _, rfl, rfl, fun j h => absurd h (Nat.not_lt_zero j)⟩
  obtain ⟨y, h1, h2⟩ := q
  rw [show iter (fun s : Int32 => M_X9_known_L21 τ (nI w) s) FU (0 : Int32) = some y from h1]
  rcases h2 with ⟨i, i1, i2, i3, rfl⟩ | ⟨i1, rfl⟩
  · exact Or.inl ⟨i, i1, i2, i3, rfl⟩
  · exact Or.inr ⟨i1, rfl⟩
end NM
