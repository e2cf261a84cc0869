/-! all copies alike -/
theorem q_allAlike {T : Td} {t l : Nat} {g : Gs} {σ τ : Wd} (h : Qd T t l g σ τ) : ∃ r : Int32, (r = 0 ∨ r = 1) ∧ M_X1_allAlike σ = some r ∧ M_X9_areAllAlike τ = some r := by
  obtain ⟨hW, hO, hP, hn⟩ := q_bd h
  obtain ⟨k1, k2, k3⟩ := q_18 h
  have run : ∀ (d i n : Nat), i + d = tN T → d < n → ∃ x : Unit ⊕ Int32, iter (fun s : Int32 => M_X1_allAlike_L2 σ s) n (nI i) = some x ∧ iter (fun s : Int32 => M_X9_areAllAlike_L2 τ s) n (nI i) = some x ∧ (x = .inl () ∨ x = .inr 0) := by
    intro d
    induction d with
    | zero =>
      intro i n hi hn'
      obtain ⟨m, rfl⟩ : ∃ m, n = m + 1 := ⟨n - 1, by omega⟩
      have hle : nI (tN T) ≤ nI i := (nI_leI (by omega) (by omega)).mpr (by omega)
      refine ⟨.inl (), it_x ?_, it_x ?_, Or.inl rfl⟩
      · show M_X1_allAlike_L2 σ (nI i) = _
        unfold M_X1_allAlike_L2
        rw [q_copies h, bnd1_some, if_pos hle]
      · show M_X9_areAllAlike_L2 τ (nI i) = _
        unfold M_X9_areAllAlike_L2
        rw [k1, chk_pos ((ib_nI (by omega)).mpr k2), ix_nI (by omega), k3, if_pos hle]
    | succ d ih =>
      intro i n hi hn'
      obtain ⟨m, rfl⟩ : ∃ m, n = m + 1 := ⟨n - 1, by omega⟩
      have hle : ¬ nI (tN T) ≤ nI i := fun z => by have := (nI_leI (by omega) (by omega)).mp z; omega
      obtain ⟨r, r0, r1, r2⟩ := q_alike h (a := 0) (b := i) (by decide) (by omega)
      have e8 : M_X1_allAlike_L2 σ (nI i) = if r ≠ 0 then some (.inl (nI (i + 1))) else some (.inr (.inr 0)) := by
        unfold M_X1_allAlike_L2
        rw [q_copies h, bnd1_some, if_neg hle, show M_X1_areAlike σ 0 (nI i) = some r from r1, bnd1_some, nI_1]
        rfl
      have e9 : M_X9_areAllAlike_L2 τ (nI i) = if r ≠ 0 then some (.inl (nI (i + 1))) else some (.inr (.inr 0)) := by
        unfold M_X9_areAllAlike_L2
        rw [k1, chk_pos ((ib_nI (by omega)).mpr k2), ix_nI (by omega), k3, if_neg hle, show M_X9_areAlike τ 0 (nI i) = some r from r2, bnd1_some, nI_1]
        rfl
      rcases r0 with rfl | rfl
      · rw [if_neg (show ¬ (0 : Int32) ≠ 0 by decide)] at e8 e9
        exact ⟨.inr 0, it_x e8, it_x e9, Or.inr rfl⟩
      · rw [if_pos (show (1 : Int32) ≠ 0 by decide)] at e8 e9
        obtain ⟨x, x1, x2, x3⟩ := ih (i + 1) m (by omega) (by omega)
        exact ⟨x, (it_s e8).trans x1, (it_s e9).trans x2, x3⟩
  obtain ⟨x, x1, x2, x3⟩ := run (tN T - 1) 1 FU (by omega) (FU_big (by omega))
  unfold M_X1_allAlike M_X9_areAllAlike
  rw [show (1 : Int32) = nI 1 from rfl, x1, x2, bnd1_some]
  rcases x3 with rfl | rfl
  · exact ⟨1, Or.inr rfl, rfl, rfl⟩
  · exact ⟨0, Or.inl rfl, rfl, rfl⟩
