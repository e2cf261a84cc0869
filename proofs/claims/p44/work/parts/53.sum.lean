/-! sums over the copies -/
def smN (g : Gs) (j : Nat) : Nat → Int32
  | 0 => 0
  | k + 1 => smN g j k + iC g j k
theorem smN_n {g : Gs} {n m j : Nat} (hI : Inv n m g) (hj : j < 4) : ∀ d, n + d ≤ 5 → smN g j (n + d) = smN g j n := by
  intro d
  induction d with
  | zero => intro _; rfl
  | succ d ih =>
    intro h
    show smN g j (n + d) + iC g j (n + d) = _
    rw [ih (by omega), hI.2.2.2.2.2.2.2.2.2.2.2.2.1 j (n + d) hj (by omega) (by omega)]
    exact Int32.add_zero _
section QB
variable {T : Td} {t l : Nat} {g : Gs} {σ τ : Wd}
theorem q_cnt (h : Qd T t l g σ τ) {j c : Nat} (hj : j < 4) (hc : c < 5) : M_X1_copyNumber σ (nI (16 + 5 * j)) (nI c) = some (iC g j c) ∧ M_X9_ofCopy τ (nI c) (nI (1 + j)) = some (iC g j c) := by
  have q := h.2.1.2.2.1 c hc
  have m := (h.2.2.2.1.2.2.1 c hc).2 j hj
  refine ⟨(c_number (by omega)).trans (congrArg some ?_), (m_ofCopy hc (by omega)).trans (congrArg some ?_)⟩
  · rcases (show j = 0 ∨ j = 1 ∨ j = 2 ∨ j = 3 by omega) with rfl | rfl | rfl | rfl
    · exact q.2.2.1
    · exact q.2.2.2.1
    · exact q.2.2.2.2.1
    · exact q.2.2.2.2.2
  · rw [← Nat.add_assoc]
    exact m
theorem c_sum (h : Qd T t l g σ τ) {j : Nat} (hj : j < 4) : M_X1_sumOfCopies σ (nI (16 + 5 * j)) = some (smN g j (tN T)) := by
  obtain ⟨hW, hO, hP, hn⟩ := q_bd h
  unfold M_X1_sumOfCopies
  obtain ⟨x, h1, h2⟩ := ow_for (body := fun s : Int32 × Int32 => M_X1_sumOfCopies_L4 σ (nI (16 + 5 * j)) s.1 s.2) (Q := fun x => x = smN g j (tN T)) (fun i s => s = (smN g j i, nI i)) (tN T) (FU_big (by omega)) (fun i s hi hs => by
    subst hs
    show ow (M_X1_sumOfCopies_L4 σ (nI (16 + 5 * j)) (smN g j i) (nI i)) _
    unfold M_X1_sumOfCopies_L4
    rw [q_copies h, bnd1_some, if_neg (fun z => by have := (nI_leI (by omega) (by omega)).mp z; omega), (q_cnt h hj (by omega)).1, bnd1_some, nI_1]
    exact ow_some.mpr rfl) (fun s hs => by
    subst hs
    show ow (M_X1_sumOfCopies_L4 σ (nI (16 + 5 * j)) (smN g j (tN T)) (nI (tN T))) _
    unfold M_X1_sumOfCopies_L4
    rw [q_copies h, bnd1_some, if_pos ((nI_leI (by omega) (by omega)).mpr (Nat.le_refl _))]
    exact ow_some.mpr rfl) 0 ((0 : Int32), (0 : Int32)) (Nat.zero_le _) rfl
  rw [show iter (fun s : Int32 × Int32 => M_X1_sumOfCopies_L4 σ (nI (16 + 5 * j)) s.1 s.2) FU ((0 : Int32), (0 : Int32)) = some x from h1, bnd1_some]
  exact congrArg some h2
theorem m_sum (h : Qd T t l g σ τ) {j : Nat} (hj : j < 4) : M_X9_sumCopies τ (nI (1 + j)) = some (smN g j (tN T)) := by
  obtain ⟨hW, hO, hP, hn⟩ := q_bd h
  have e5 : smN g j 5 = smN g j (tN T) := by
    have := smN_n h.2.2.2.2.1 hj (5 - tN T) (by omega)
    rwa [show tN T + (5 - tN T) = 5 by omega] at this
  unfold M_X9_sumCopies
  obtain ⟨x, h1, h2⟩ := ow_for (body := fun s : Int32 × Int32 => M_X9_sumCopies_L4 τ (nI (1 + j)) s.1 s.2) (Q := fun x => x = smN g j 5) (fun i s => s = (smN g j i, nI i)) 5 (FU_big (by decide)) (fun i s hi hs => by
    subst hs
    show ow (M_X9_sumCopies_L4 τ (nI (1 + j)) (smN g j i) (nI i)) _
    unfold M_X9_sumCopies_L4
    rw [if_neg (fun z => by have := (nI_leI (a := 5) (b := i) (by decide) (by omega)).mp z; omega), (q_cnt h hj hi).2, bnd1_some, nI_1]
    exact ow_some.mpr rfl) (fun s hs => by
    subst hs
    show ow (M_X9_sumCopies_L4 τ (nI (1 + j)) (smN g j 5) (nI 5)) _
    unfold M_X9_sumCopies_L4
    rw [if_pos (by decide)]
    exact ow_some.mpr rfl) 0 ((0 : Int32), (0 : Int32)) (Nat.zero_le _) rfl
  rw [show iter (fun s : Int32 × Int32 => M_X9_sumCopies_L4 τ (nI (1 + j)) s.1 s.2) FU ((0 : Int32), (0 : Int32)) = some x from h1, bnd1_some, ← e5]
  exact congrArg some h2
end QB
