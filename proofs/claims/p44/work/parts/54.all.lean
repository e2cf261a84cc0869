/-! what all copies know; all alike -/
def mnN (g : Gs) : Nat → Nat
  | 0 => 60
  | k + 1 => min (mnN g k) (gK g k)
theorem mnN_le {g : Gs} : ∀ k, mnN g k ≤ 60 := by
  intro k
  induction k with
  | zero => exact Nat.le_refl _
  | succ k ih => show min (mnN g k) (gK g k) ≤ 60; omega
section QC
variable {T : Td} {t l : Nat} {g : Gs} {σ τ : Wd}
theorem q_K (h : Qd T t l g σ τ) {c : Nat} (hc : c < 5) : gK g c ≤ 60 := by
  obtain ⟨hW, hO, hP, hn⟩ := q_bd h
  have := h.2.2.2.2.1.2.2.1 c hc
  omega
theorem c_all (h : Qd T t l g σ τ) : M_X1_knownToAll σ = some (nI (mnN g (tN T))) := by
  obtain ⟨hW, hO, hP, hn⟩ := q_bd h
  have k0 := q_K h (c := 0) (by decide)
  unfold M_X1_knownToAll
  rw [show M_X1_knownOf σ 0 = some (nI (gK g 0)) from (q_known h (c := 0) (by decide)).1, bnd1_some]
  obtain ⟨x, h1, h2⟩ := ow_for (body := fun s : Int32 × Int32 => M_X1_knownToAll_L8 σ s.1 s.2) (Q := fun x => x = nI (mnN g (tN T))) (fun i s => s = (nI (mnN g i), nI i)) (tN T) (FU_big (by omega)) (fun i s hi hs => by
    subst hs
    show ow (M_X1_knownToAll_L8 σ (nI (mnN g i)) (nI i)) _
    unfold M_X1_knownToAll_L8
    have e1 : mnN g (i + 1) = min (mnN g i) (gK g i) := rfl
    have hm := mnN_le (g := g) i
    have hk := q_K h (c := i) (by omega)
    rw [q_copies h, bnd1_some, if_neg (fun z => by have := (nI_leI (by omega) (by omega)).mp z; omega), (q_known h (by omega)).1, bnd1_some, nI_1]
    simp only [lt_eq]
    refine ow_some.mpr ?_
    show _ = _
    rw [e1]
    by_cases hl : gK g i < mnN g i
    · rw [if_pos ((nI_ltI (by omega) (by omega)).mpr hl), Nat.min_eq_right (by omega)]
    · rw [if_neg (fun z => hl ((nI_ltI (by omega) (by omega)).mp z)), Nat.min_eq_left (by omega)]) (fun s hs => by
    subst hs
    show ow (M_X1_knownToAll_L8 σ (nI (mnN g (tN T))) (nI (tN T))) _
    unfold M_X1_knownToAll_L8
    rw [q_copies h, bnd1_some, if_pos ((nI_leI (by omega) (by omega)).mpr (Nat.le_refl _))]
    exact ow_some.mpr rfl) 1 (nI (gK g 0), (1 : Int32)) (by omega) (by rw [show mnN g 1 = gK g 0 from Nat.min_eq_right k0]; rfl)
  rw [show iter (fun s : Int32 × Int32 => M_X1_knownToAll_L8 σ s.1 s.2) FU (nI (gK g 0), (1 : Int32)) = some x from h1, bnd1_some]
  exact congrArg some h2
theorem m_all (h : Qd T t l g σ τ) : M_X9_knownByAll τ = some (nI (mnN g (tN T))) := by
  obtain ⟨hW, hO, hP, hn⟩ := q_bd h
  obtain ⟨k1, k2, k3⟩ := q_18 h
  unfold M_X9_knownByAll
  obtain ⟨x, h1, h2⟩ := ow_for (body := fun s : Int32 × Int32 => M_X9_knownByAll_L5 τ s.1 s.2) (Q := fun x => x = nI (mnN g (tN T))) (fun i s => s = (nI (mnN g i), nI i)) (tN T) (FU_big (by omega)) (fun i s hi hs => by
    subst hs
    show ow (M_X9_knownByAll_L5 τ (nI (mnN g i)) (nI i)) _
    unfold M_X9_knownByAll_L5
    have e1 : mnN g (i + 1) = min (mnN g i) (gK g i) := rfl
    have hm := mnN_le (g := g) i
    have hk := q_K h (c := i) (by omega)
    rw [k1, chk_pos ((ib_nI (by omega)).mpr k2), ix_nI (by omega), k3, if_neg (fun z => by have := (nI_leI (by omega) (by omega)).mp z; omega), (q_known h (by omega)).2, bnd1_some, bnd1_some, nI_1]
    simp only [lt_eq]
    by_cases hl : mnN g i ≤ gK g i
    · rw [if_pos ((nI_leI (by omega) (by omega)).mpr hl)]
      refine ow_some.mpr ?_
      show _ = _
      rw [e1, Nat.min_eq_left hl]
    · rw [if_neg (fun z => hl ((nI_leI (by omega) (by omega)).mp z))]
      refine ow_some.mpr ?_
      show _ = _
      rw [e1, Nat.min_eq_right (by omega)]) (fun s hs => by
    subst hs
    show ow (M_X9_knownByAll_L5 τ (nI (mnN g (tN T))) (nI (tN T))) _
    unfold M_X9_knownByAll_L5
    rw [k1, chk_pos ((ib_nI (by omega)).mpr k2), ix_nI (by omega), k3, if_pos ((nI_leI (by omega) (by omega)).mpr (Nat.le_refl _))]
    exact ow_some.mpr rfl) 0 ((60 : Int32), (0 : Int32)) (Nat.zero_le _) rfl
  rw [show iter (fun s : Int32 × Int32 => M_X9_knownByAll_L5 τ s.1 s.2) FU ((60 : Int32), (0 : Int32)) = some x from h1, bnd1_some]
  exact congrArg some h2
end QC
