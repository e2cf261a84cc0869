/-! refusals in all sessions -/
def rfN (g : Gs) : Nat → Int32
  | 0 => 0
  | k + 1 => rfN g k + iRf g k
section QD2
variable {T : Td} {t l : Nat} {g : Gs} {σ τ : Wd}
theorem c_refused (h : Qd T t l g σ τ) : M_X1_refusedInAll σ = some (rfN g 4) := by
  unfold M_X1_refusedInAll
  obtain ⟨x, h1, h2⟩ := ow_for (body := fun s : Int32 × Int32 => M_X1_refusedInAll_L4 σ s.1 s.2) (Q := fun x => x = rfN g 4) (fun i s => s = (rfN g i, nI i)) 4 (FU_big (by decide)) (fun i s hi hs => by
    subst hs
    show ow (M_X1_refusedInAll_L4 σ (rfN g i) (nI i)) _
    unfold M_X1_refusedInAll_L4
    rw [if_neg (fun z => by have := (nI_leI (a := 4) (b := i) (by decide) (by omega)).mp z; omega), show (48 : Int32) = nI 48 from rfl, c_snumber (by omega), bnd1_some, show (gL σ 29 (48 + i)).toInt32 = iRf g i from (h.2.1.2.2.2 i hi).2.1, nI_1]
    exact ow_some.mpr rfl) (fun s hs => by
    subst hs
    show ow (M_X1_refusedInAll_L4 σ (rfN g 4) (nI 4)) _
    unfold M_X1_refusedInAll_L4
    rw [if_pos (by decide)]
    exact ow_some.mpr rfl) 0 ((0 : Int32), (0 : Int32)) (Nat.zero_le _) rfl
  rw [show iter (fun s : Int32 × Int32 => M_X1_refusedInAll_L4 σ s.1 s.2) FU ((0 : Int32), (0 : Int32)) = some x from h1, bnd1_some]
  exact congrArg some h2
theorem m_refused (h : Qd T t l g σ τ) : iter (fun s : Int32 × Int32 => M_X9_count_L252 τ s.1 s.2) FU ((0 : Int32), (0 : Int32)) = some (rfN g 4) := by
  obtain ⟨x, h1, h2⟩ := ow_for (body := fun s : Int32 × Int32 => M_X9_count_L252 τ s.1 s.2) (Q := fun x => x = rfN g 4) (fun i s => s = (rfN g i, nI i)) 4 (FU_big (by decide)) (fun i s hi hs => by
    subst hs
    show ow (M_X9_count_L252 τ (rfN g i) (nI i)) _
    unfold M_X9_count_L252
    rw [if_neg (fun z => by have := (nI_leI (a := 4) (b := i) (by decide) (by omega)).mp z; omega), b50, nI_1, nI_1, chk_pos ((ib_nI (by omega)).mpr (by omega)), ix_nI (by omega), show gI τ 26 (50 + 14 * i + 1) = iRf g i from (h.2.2.2.1.2.2.2.1 i hi).2.1]
    exact ow_some.mpr rfl) (fun s hs => by
    subst hs
    show ow (M_X9_count_L252 τ (rfN g 4) (nI 4)) _
    unfold M_X9_count_L252
    rw [if_pos (by decide)]
    exact ow_some.mpr rfl) 0 ((0 : Int32), (0 : Int32)) (Nat.zero_le _) rfl
  rw [show iter (fun s : Int32 × Int32 => M_X9_count_L252 τ s.1 s.2) FU ((0 : Int32), (0 : Int32)) = some x from h1, h2]
end QD2
