/-! count -/
def alB (g : Gs) (w : Nat) : Nat → Bool
  | 0 => true
  | k + 1 => alB g w k && decide (gA g k w = 1)
theorem c_hadAll {T : Td} {t l : Nat} {g : Gs} {σ τ : Wd} (h : Qd T t l g σ τ) : ∃ x, M_X1_hadByAll σ = some x ∧ ∀ w, w < 64 → x.toBitVec.getLsbD w = alB g w (tN T) := by
  obtain ⟨hW, hO, hP, hn⟩ := q_bd h
  obtain ⟨x, h1, h2⟩ := ow_for (body := fun s : Int64 × Int32 => M_X1_hadByAll_L8 σ s.1 s.2) (Q := fun x => ∀ w, w < 64 → x.toBitVec.getLsbD w = alB g w (tN T)) (fun i s => ∃ y, s = (y, nI i) ∧ 1 ≤ i ∧ ∀ w, w < 64 → y.toBitVec.getLsbD w = alB g w i) (tN T) (FU_big (by omega)) (fun i s hi ⟨y, hs, h1, hy⟩ => by
    subst hs
    show ow (M_X1_hadByAll_L8 σ y (nI i)) _
    unfold M_X1_hadByAll_L8
    rw [q_copies h, bnd1_some, if_neg (fun z => by have := (nI_leI (by omega) (by omega)).mp z; omega), c_setOf (by omega), bnd1_some, lt_eq, lt_eq, nI_1]
    refine ow_some.mpr ⟨_, rfl, by omega, fun w hw => ?_⟩
    rw [Int64.toBitVec_and, BitVec.getLsbD_and, hy w hw, q_set h (by omega) hw]
    rfl) (fun s ⟨y, hs, h1, hy⟩ => by
    subst hs
    show ow (M_X1_hadByAll_L8 σ y (nI (tN T))) _
    unfold M_X1_hadByAll_L8
    rw [q_copies h, bnd1_some, if_pos ((nI_leI (by omega) (by omega)).mpr (Nat.le_refl _))]
    exact ow_some.mpr hy) 1 (gL σ 29 (6 + 0), (1 : Int32)) (by omega) ⟨_, rfl, Nat.le_refl _, fun w hw => by rw [q_set h (by decide) hw]; show _ = (true && _); rw [Bool.true_and]⟩
  refine ⟨x, ?_, h2⟩
  unfold M_X1_hadByAll
  rw [show M_X1_setOf σ 0 = some (gL σ 29 (6 + 0)) from c_setOf (c := 0) (by decide), bnd1_some, show iter (fun s : Int64 × Int32 => M_X1_hadByAll_L8 σ s.1 s.2) FU (gL σ 29 (6 + 0), (1 : Int32)) = some x from h1]
  rfl
theorem m_hadAll {T : Td} {t l : Nat} {g : Gs} {σ τ : Wd} (h : Qd T t l g σ τ) : M_X9_hadByAll τ = some (nI (cnN (fun w => alB g w (tN T)) (gW g))) := by
  obtain ⟨hW, hO, hP, hn⟩ := q_bd h
  obtain ⟨k1, k2, k3⟩ := q_18 h
  have e0 : gI τ 26 (ix (0 : Int32)) = nI (gW g) := h.2.2.2.1.1.1
  have inner : ∀ (v1 : Int32) (w : Nat), w < gW g → iter (fun s : Int32 × Int32 => M_X9_hadByAll_L19 τ v1 (nI w) s.1 s.2) FU ((1 : Int32), (0 : Int32)) = some (if alB g w (tN T) = true then 1 else 0) := fun v1 w hw => by
    obtain ⟨x, h1, h2⟩ := ow_for (body := fun s : Int32 × Int32 => M_X9_hadByAll_L19 τ v1 (nI w) s.1 s.2) (Q := fun x => x = if alB g w (tN T) = true then (1 : Int32) else 0) (fun i s => s = ((if alB g w i = true then (1 : Int32) else 0), nI i)) (tN T) (FU_big (by omega)) (fun i s hi hs => by
      subst hs
      show ow (M_X9_hadByAll_L19 τ v1 (nI w) (if alB g w i = true then (1 : Int32) else 0) (nI i)) _
      have e1 : alB g w (i + 1) = (alB g w i && decide (gA g i w = 1)) := rfl
      unfold M_X9_hadByAll_L19
      rw [k1, chk_pos ((ib_nI (by omega)).mpr k2), ix_nI (by omega), k3, if_neg (fun z => by have := (nI_leI (by omega) (by omega)).mp z; omega), q_have h (by omega) (by omega), bnd1_some, nI_1]
      by_cases hA : gA g i w = 1
      · rw [if_pos hA, if_pos n01]
        refine ow_some.mpr ?_
        show _ = _
        rw [e1, hA]
        simp
      · rw [if_neg hA, if_neg z00]
        refine ow_some.mpr ?_
        show _ = _
        rw [e1]
        simp [hA]) (fun s hs => by
      subst hs
      show ow (M_X9_hadByAll_L19 τ v1 (nI w) (if alB g w (tN T) = true then (1 : Int32) else 0) (nI (tN T))) _
      unfold M_X9_hadByAll_L19
      rw [k1, chk_pos ((ib_nI (by omega)).mpr k2), ix_nI (by omega), k3, if_pos ((nI_leI (by omega) (by omega)).mpr (Nat.le_refl _))]
      exact ow_some.mpr rfl) 0 ((1 : Int32), (0 : Int32)) (Nat.zero_le _) rfl
    rw [show iter (fun s : Int32 × Int32 => M_X9_hadByAll_L19 τ v1 (nI w) s.1 s.2) FU ((1 : Int32), (0 : Int32)) = some x from h1, h2]
  obtain ⟨x, h1, h2⟩ := ow_for (body := fun s : Int32 × Int32 => M_X9_hadByAll_L4 τ s.1 s.2) (Q := fun x => x = nI (cnN (fun w => alB g w (tN T)) (gW g))) (fun i s => s = (nI (cnN (fun w => alB g w (tN T)) i), nI i)) (gW g) (FU_big (by omega)) (fun i s hi hs => by
    subst hs
    show ow (M_X9_hadByAll_L4 τ (nI (cnN (fun w => alB g w (tN T)) i)) (nI i)) _
    have e1 : cnN (fun w => alB g w (tN T)) (i + 1) = if alB g i (tN T) = true then cnN (fun w => alB g w (tN T)) i + 1 else cnN (fun w => alB g w (tN T)) i := rfl
    unfold M_X9_hadByAll_L4
    rw [chk_pos (by decide), e0, if_neg (fun z => by have := (nI_leI (by omega) (by omega)).mp z; omega), inner _ i hi, bnd1_some]
    show ow (if (if alB g i (tN T) = true then (1 : Int32) else 0) = 0 then _ else _) _
    rw [nI_1, nI_1]
    by_cases hb : alB g i (tN T) = true
    · rw [if_pos hb, if_neg n10]
      refine ow_some.mpr ?_
      show _ = _
      rw [e1, if_pos hb]
    · rw [if_neg hb, if_pos rfl]
      refine ow_some.mpr ?_
      show _ = _
      rw [e1, if_neg hb]) (fun s hs => by
    subst hs
    show ow (M_X9_hadByAll_L4 τ (nI (cnN (fun w => alB g w (tN T)) (gW g))) (nI (gW g))) _
    unfold M_X9_hadByAll_L4
    rw [chk_pos (by decide), e0, if_pos ((nI_leI (by omega) (by omega)).mpr (Nat.le_refl _))]
    exact ow_some.mpr rfl) 0 ((0 : Int32), (0 : Int32)) (Nat.zero_le _) rfl
  unfold M_X9_hadByAll
  rw [show iter (fun s : Int32 × Int32 => M_X9_hadByAll_L4 τ s.1 s.2) FU ((0 : Int32), (0 : Int32)) = some x from h1, h2]
  rfl
theorem c_slots {σ : Wd} {hl : Nat → Nat} (h : ∀ k, k < 3 → hl k ≤ 1 ∧ gI σ 65 k = nI (hl k)) : M_X8_slotsHeld σ = some (nI (hl 0 + hl 1 + hl 2)) := by
  have st : ∀ (v k : Nat), k < 3 → M_X8_slotsHeld_L4 σ (nI v) (nI k) = some (.inl (nI (v + hl k), nI (k + 1))) := fun v k hk => by
    obtain ⟨a, b⟩ := h k hk
    unfold M_X8_slotsHeld_L4
    rw [if_neg (show ¬ (3 : Int32) ≤ nI k from fun z => by have := (nI_leI (a := 3) (by decide) (by omega)).mp z; omega), chk_pos ((ib_nI (by omega)).mpr hk), ix_nI (by omega), b, nI_1, nI_1]
    rcases (show hl k = 0 ∨ hl k = 1 by omega) with e | e
    · rw [e, if_pos (show nI 0 = 0 by decide)]; rfl
    · rw [e, if_neg (show ¬ nI 1 = 0 by decide)]; rfl
  have st3 : ∀ v, M_X8_slotsHeld_L4 σ (nI v) (nI 3) = some (.inr (nI v)) := fun v => by
    unfold M_X8_slotsHeld_L4
    rw [if_pos (by decide)]
  obtain ⟨m, hm⟩ : ∃ m, FU = m + 1 + 1 + 1 + 1 := ⟨999996, by unfold FU; omega⟩
  unfold M_X8_slotsHeld
  rw [hm, it_s (s := ((0 : Int32), (0 : Int32))) (s' := (nI (0 + hl 0), nI 1)) (st 0 0 (by decide)), it_s (s' := (nI (0 + hl 0 + hl 1), nI 2)) (st _ 1 (by decide)), it_s (s' := (nI (0 + hl 0 + hl 1 + hl 2), nI 3)) (st _ 2 (by decide)), it_x (x := nI (0 + hl 0 + hl 1 + hl 2)) (st3 _), bnd1_some, Nat.zero_add]
  rfl
theorem m_slots {τ : Wd} {hl : Nat → Nat} (h : ∀ k, k < 3 → hl k ≤ 1 ∧ gI τ 35 k = nI (hl k)) : (chk (ib (0 : Int32) 3) (if (gI τ 35 (ix (0 : Int32))) = 0 then (M_X9_count_J197 τ (0 : Int32)) else (M_X9_count_J197 τ (1 : Int32)))) = some (nI (hl 0 + hl 1 + hl 2), τ) := by
  obtain ⟨a0, b0⟩ := h 0 (by decide)
  obtain ⟨a1, b1⟩ := h 1 (by decide)
  obtain ⟨a2, b2⟩ := h 2 (by decide)
  unfold M_X9_count_J197 M_X9_count_J211 M_X9_count_J226
  rw [chk_pos (by decide), chk_pos (by decide), chk_pos (by decide), chk_pos (by decide), chk_pos (by decide), show ix (0 : Int32) = 0 from rfl, show ix (1 : Int32) = 1 from rfl, show ix (2 : Int32) = 2 from rfl, b0, b1, b2]
  rcases (show hl 0 = 0 ∨ hl 0 = 1 by omega) with e0 | e0 <;> rcases (show hl 1 = 0 ∨ hl 1 = 1 by omega) with e1 | e1 <;> rcases (show hl 2 = 0 ∨ hl 2 = 1 by omega) with e2 | e2 <;> rw [e0, e1, e2] <;> rfl
theorem st_40 : Sp_40 Rel := by
  intro σ τ h b
  obtain ⟨T', t', l', tp, un, nx, g', hs, sl, hl, r1, r2, r3, r4, r5, r6, r7⟩ := Rel_iff.mp h
  obtain ⟨T, t, l, g, τ1, hc, hK, hR, hQ, hT⟩ := ask_start h
  obtain ⟨hW, hO, hP, hn⟩ := q_bd hQ
  have hI := hQ.2.2.2.2.1
  obtain ⟨ht, h4, hl2, h18, hTI, hTC, hTM⟩ := gR_mid hQ.1
  have cl : ib (nI l) 2 := (ib_nI (by omega)).mpr hl2
  have xl : ix (nI l) = l := ix_nI (by omega)
  have mrow : ∀ j, gI τ1 26 j = τ1.1 26 j := fun j => rfl
  unfold M_X8_count M_X9_count
  rw [hc, bnd1_some]
  rcases bd_cases b (n := 19) (by decide) with ⟨k, hk, rfl⟩ | hb
  · rcases (show k = 0 ∨ k = 1 ∨ k = 2 ∨ k = 3 ∨ k = 4 ∨ k = 5 ∨ k = 6 ∨ k = 7 ∨ k = 8 ∨ k = 9 ∨ k = 10 ∨ k = 11 ∨ k = 12 ∨ k = 13 ∨ k = 14 ∨ k = 15 ∨ k = 16 ∨ k = 17 ∨ k = 18 by omega) with rfl | rfl | rfl | rfl | rfl | rfl | rfl | rfl | rfl | rfl | rfl | rfl | rfl | rfl | rfl | rfl | rfl | rfl | rfl
    · rw [if_pos (show nI 0 = 0 by decide), h4, chk_pos ht, hTC.1.1]
      rw [if_pos (show nI 0 = 0 by decide), h18, chk_pos cl, xl, hTM.1.1]
      exact ⟨_, _, _, rfl, rfl, hR⟩
    · rw [if_neg (show ¬ nI 1 = 0 by decide), if_pos (show nI 1 = 1 by decide), h4, chk_pos ht, hTC.1.2.2.2.1]
      rw [if_neg (show ¬ nI 1 = 0 by decide), if_pos (show nI 1 = 1 by decide), h18, chk_pos cl, xl, hTM.1.2.2.2.1]
      exact ⟨_, _, _, rfl, rfl, hR⟩
    · rw [if_neg (show ¬ nI 2 = 0 by decide), if_neg (show ¬ nI 2 = 1 by decide), if_pos (show nI 2 = 2 by decide), h4, chk_pos ht, hTC.1.2.2.2.2]
      rw [if_neg (show ¬ nI 2 = 0 by decide), if_neg (show ¬ nI 2 = 1 by decide), if_pos (show nI 2 = 2 by decide), h18, chk_pos cl, xl, hTM.1.2.2.2.2]
      exact ⟨_, _, _, rfl, rfl, hR⟩
    · rw [if_neg (show ¬ nI 3 = 0 by decide), if_neg (show ¬ nI 3 = 1 by decide), if_neg (show ¬ nI 3 = 2 by decide), if_pos (show nI 3 = 3 by decide), q_writes hQ, bnd1_some]
      rw [if_neg (show ¬ nI 3 = 0 by decide), if_neg (show ¬ nI 3 = 1 by decide), if_neg (show ¬ nI 3 = 2 by decide), if_pos (show nI 3 = 3 by decide), chk_pos (by decide), show gI τ1 26 (ix (0 : Int32)) = nI (gW g) from hQ.2.2.2.1.1.1]
      exact ⟨_, _, _, rfl, rfl, hR⟩
    · rw [if_neg (show ¬ nI 4 = 0 by decide), if_neg (show ¬ nI 4 = 1 by decide), if_neg (show ¬ nI 4 = 2 by decide), if_neg (show ¬ nI 4 = 3 by decide), if_pos (show nI 4 = 4 by decide), q_ordered hQ, bnd1_some]
      rw [if_neg (show ¬ nI 4 = 0 by decide), if_neg (show ¬ nI 4 = 1 by decide), if_neg (show ¬ nI 4 = 2 by decide), if_neg (show ¬ nI 4 = 3 by decide), if_pos (show nI 4 = 4 by decide), chk_pos (by decide), show gI τ1 26 (ix (1 : Int32)) = nI (gO g) from hQ.2.2.2.1.1.2.1]
      exact ⟨_, _, _, rfl, rfl, hR⟩
    · rw [if_neg (show ¬ nI 5 = 0 by decide), if_neg (show ¬ nI 5 = 1 by decide), if_neg (show ¬ nI 5 = 2 by decide), if_neg (show ¬ nI 5 = 3 by decide), if_neg (show ¬ nI 5 = 4 by decide), if_pos (show nI 5 = 5 by decide), show M_X1_primary σ = some (nI (gP g)) from c_primary hQ.2.1.1.2.1, bnd1_some]
      rw [if_neg (show ¬ nI 5 = 0 by decide), if_neg (show ¬ nI 5 = 1 by decide), if_neg (show ¬ nI 5 = 2 by decide), if_neg (show ¬ nI 5 = 3 by decide), if_neg (show ¬ nI 5 = 4 by decide), if_pos (show nI 5 = 5 by decide), chk_pos (by decide), show gI τ1 26 (ix (2 : Int32)) = nI (gP g) from hQ.2.2.2.1.1.2.2.1]
      exact ⟨_, _, _, rfl, rfl, hR⟩
    · rw [if_neg (show ¬ nI 6 = 0 by decide), if_neg (show ¬ nI 6 = 1 by decide), if_neg (show ¬ nI 6 = 2 by decide), if_neg (show ¬ nI 6 = 3 by decide), if_neg (show ¬ nI 6 = 4 by decide), if_neg (show ¬ nI 6 = 5 by decide), if_pos (show nI 6 = 6 by decide), show M_X1_chances σ = some (nI (gC g)) from c_chances hQ.2.1.1.2.2.2.2.1, bnd1_some]
      rw [if_neg (show ¬ nI 6 = 0 by decide), if_neg (show ¬ nI 6 = 1 by decide), if_neg (show ¬ nI 6 = 2 by decide), if_neg (show ¬ nI 6 = 3 by decide), if_neg (show ¬ nI 6 = 4 by decide), if_neg (show ¬ nI 6 = 5 by decide), if_pos (show nI 6 = 6 by decide), chk_pos (by decide), show gI τ1 26 (ix (3 : Int32)) = nI (gC g) from hQ.2.2.2.1.1.2.2.2.1]
      exact ⟨_, _, _, rfl, rfl, hR⟩
    · rw [if_neg (show ¬ nI 7 = 0 by decide), if_neg (show ¬ nI 7 = 1 by decide), if_neg (show ¬ nI 7 = 2 by decide), if_neg (show ¬ nI 7 = 3 by decide), if_neg (show ¬ nI 7 = 4 by decide), if_neg (show ¬ nI 7 = 5 by decide), if_neg (show ¬ nI 7 = 6 by decide), if_pos (show nI 7 = 7 by decide), show M_X1_sumOfCopies σ 16 = some (smN g 0 (tN T)) from c_sum (j := 0) hQ (by decide), bnd1_some]
      rw [if_neg (show ¬ nI 7 = 0 by decide), if_neg (show ¬ nI 7 = 1 by decide), if_neg (show ¬ nI 7 = 2 by decide), if_neg (show ¬ nI 7 = 3 by decide), if_neg (show ¬ nI 7 = 4 by decide), if_neg (show ¬ nI 7 = 5 by decide), if_neg (show ¬ nI 7 = 6 by decide), if_pos (show nI 7 = 7 by decide), show M_X9_sumCopies τ1 1 = some (smN g 0 (tN T)) from m_sum (j := 0) hQ (by decide), bnd1_some]
      exact ⟨_, _, _, rfl, rfl, hR⟩
    · rw [if_neg (show ¬ nI 8 = 0 by decide), if_neg (show ¬ nI 8 = 1 by decide), if_neg (show ¬ nI 8 = 2 by decide), if_neg (show ¬ nI 8 = 3 by decide), if_neg (show ¬ nI 8 = 4 by decide), if_neg (show ¬ nI 8 = 5 by decide), if_neg (show ¬ nI 8 = 6 by decide), if_neg (show ¬ nI 8 = 7 by decide), if_pos (show nI 8 = 8 by decide), r1.2.1]
      rw [if_neg (show ¬ nI 8 = 0 by decide), if_neg (show ¬ nI 8 = 1 by decide), if_neg (show ¬ nI 8 = 2 by decide), if_neg (show ¬ nI 8 = 3 by decide), if_neg (show ¬ nI 8 = 4 by decide), if_neg (show ¬ nI 8 = 5 by decide), if_neg (show ¬ nI 8 = 6 by decide), if_neg (show ¬ nI 8 = 7 by decide), if_pos (show nI 8 = 8 by decide), hK.2.2 2 (by decide), r1.2.2.1]
      exact ⟨_, _, _, rfl, rfl, hR⟩
    · rw [if_neg (show ¬ nI 9 = 0 by decide), if_neg (show ¬ nI 9 = 1 by decide), if_neg (show ¬ nI 9 = 2 by decide), if_neg (show ¬ nI 9 = 3 by decide), if_neg (show ¬ nI 9 = 4 by decide), if_neg (show ¬ nI 9 = 5 by decide), if_neg (show ¬ nI 9 = 6 by decide), if_neg (show ¬ nI 9 = 7 by decide), if_neg (show ¬ nI 9 = 8 by decide), if_pos (show nI 9 = 9 by decide), r5.2.2.1]
      rw [if_neg (show ¬ nI 9 = 0 by decide), if_neg (show ¬ nI 9 = 1 by decide), if_neg (show ¬ nI 9 = 2 by decide), if_neg (show ¬ nI 9 = 3 by decide), if_neg (show ¬ nI 9 = 4 by decide), if_neg (show ¬ nI 9 = 5 by decide), if_neg (show ¬ nI 9 = 6 by decide), if_neg (show ¬ nI 9 = 7 by decide), if_neg (show ¬ nI 9 = 8 by decide), if_pos (show nI 9 = 9 by decide), hK.2.2 51 (by decide), r5.2.2.2.2.1]
      exact ⟨_, _, _, rfl, rfl, hR⟩
    · rw [if_neg (show ¬ nI 10 = 0 by decide), if_neg (show ¬ nI 10 = 1 by decide), if_neg (show ¬ nI 10 = 2 by decide), if_neg (show ¬ nI 10 = 3 by decide), if_neg (show ¬ nI 10 = 4 by decide), if_neg (show ¬ nI 10 = 5 by decide), if_neg (show ¬ nI 10 = 6 by decide), if_neg (show ¬ nI 10 = 7 by decide), if_neg (show ¬ nI 10 = 8 by decide), if_neg (show ¬ nI 10 = 9 by decide)]
      unfold M_X8_countFurther
      rw [if_pos (show nI 10 = 10 by decide)]
      rw [if_neg (show ¬ nI 10 = 0 by decide), if_neg (show ¬ nI 10 = 1 by decide), if_neg (show ¬ nI 10 = 2 by decide), if_neg (show ¬ nI 10 = 3 by decide), if_neg (show ¬ nI 10 = 4 by decide), if_neg (show ¬ nI 10 = 5 by decide), if_neg (show ¬ nI 10 = 6 by decide), if_neg (show ¬ nI 10 = 7 by decide), if_neg (show ¬ nI 10 = 8 by decide), if_neg (show ¬ nI 10 = 9 by decide), if_pos (show nI 10 = 10 by decide)]
      obtain ⟨r, q1, q2, q3⟩ := q_allAlike hQ
      rw [q2, bnd1_some, q3, bnd1_some]
      by_cases hr : r = 0
      · rw [if_pos hr, if_pos hr, bnd2_some]
        exact ⟨_, _, _, rfl, rfl, hR⟩
      · rw [if_neg hr, if_neg hr, bnd2_some]
        exact ⟨_, _, _, rfl, rfl, hR⟩
    · rw [if_neg (show ¬ nI 11 = 0 by decide), if_neg (show ¬ nI 11 = 1 by decide), if_neg (show ¬ nI 11 = 2 by decide), if_neg (show ¬ nI 11 = 3 by decide), if_neg (show ¬ nI 11 = 4 by decide), if_neg (show ¬ nI 11 = 5 by decide), if_neg (show ¬ nI 11 = 6 by decide), if_neg (show ¬ nI 11 = 7 by decide), if_neg (show ¬ nI 11 = 8 by decide), if_neg (show ¬ nI 11 = 9 by decide)]
      unfold M_X8_countFurther
      rw [if_neg (show ¬ nI 11 = 10 by decide), if_pos (show nI 11 = 11 by decide)]
      rw [if_neg (show ¬ nI 11 = 0 by decide), if_neg (show ¬ nI 11 = 1 by decide), if_neg (show ¬ nI 11 = 2 by decide), if_neg (show ¬ nI 11 = 3 by decide), if_neg (show ¬ nI 11 = 4 by decide), if_neg (show ¬ nI 11 = 5 by decide), if_neg (show ¬ nI 11 = 6 by decide), if_neg (show ¬ nI 11 = 7 by decide), if_neg (show ¬ nI 11 = 8 by decide), if_neg (show ¬ nI 11 = 9 by decide), if_neg (show ¬ nI 11 = 10 by decide), if_pos (show nI 11 = 11 by decide)]
      rw [c_slots (hl := hl) (fun k hk => ⟨(r6 k hk).1, (r6 k hk).2.1⟩), bnd1_some, bnd2_some, m_slots (hl := hl) (fun k hk => ⟨(r6 k hk).1, (congrFun (hK.1 35 rfl) k).trans (r6 k hk).2.2.1⟩)]
      exact ⟨_, _, _, rfl, rfl, hR⟩
    · rw [if_neg (show ¬ nI 12 = 0 by decide), if_neg (show ¬ nI 12 = 1 by decide), if_neg (show ¬ nI 12 = 2 by decide), if_neg (show ¬ nI 12 = 3 by decide), if_neg (show ¬ nI 12 = 4 by decide), if_neg (show ¬ nI 12 = 5 by decide), if_neg (show ¬ nI 12 = 6 by decide), if_neg (show ¬ nI 12 = 7 by decide), if_neg (show ¬ nI 12 = 8 by decide), if_neg (show ¬ nI 12 = 9 by decide)]
      unfold M_X8_countFurther
      rw [if_neg (show ¬ nI 12 = 10 by decide), if_neg (show ¬ nI 12 = 11 by decide), if_pos (show nI 12 = 12 by decide)]
      rw [if_neg (show ¬ nI 12 = 0 by decide), if_neg (show ¬ nI 12 = 1 by decide), if_neg (show ¬ nI 12 = 2 by decide), if_neg (show ¬ nI 12 = 3 by decide), if_neg (show ¬ nI 12 = 4 by decide), if_neg (show ¬ nI 12 = 5 by decide), if_neg (show ¬ nI 12 = 6 by decide), if_neg (show ¬ nI 12 = 7 by decide), if_neg (show ¬ nI 12 = 8 by decide), if_neg (show ¬ nI 12 = 9 by decide), if_neg (show ¬ nI 12 = 10 by decide), if_neg (show ¬ nI 12 = 11 by decide), if_pos (show nI 12 = 12 by decide)]
      rw [show M_X1_sumOfCopies σ 26 = some (smN g 2 (tN T)) from c_sum (j := 2) hQ (by decide), bnd1_some, bnd2_some, show M_X9_sumCopies τ1 3 = some (smN g 2 (tN T)) from m_sum (j := 2) hQ (by decide), bnd1_some]
      exact ⟨_, _, _, rfl, rfl, hR⟩
    · rw [if_neg (show ¬ nI 13 = 0 by decide), if_neg (show ¬ nI 13 = 1 by decide), if_neg (show ¬ nI 13 = 2 by decide), if_neg (show ¬ nI 13 = 3 by decide), if_neg (show ¬ nI 13 = 4 by decide), if_neg (show ¬ nI 13 = 5 by decide), if_neg (show ¬ nI 13 = 6 by decide), if_neg (show ¬ nI 13 = 7 by decide), if_neg (show ¬ nI 13 = 8 by decide), if_neg (show ¬ nI 13 = 9 by decide)]
      unfold M_X8_countFurther
      rw [if_neg (show ¬ nI 13 = 10 by decide), if_neg (show ¬ nI 13 = 11 by decide), if_neg (show ¬ nI 13 = 12 by decide), if_pos (show nI 13 = 13 by decide)]
      rw [if_neg (show ¬ nI 13 = 0 by decide), if_neg (show ¬ nI 13 = 1 by decide), if_neg (show ¬ nI 13 = 2 by decide), if_neg (show ¬ nI 13 = 3 by decide), if_neg (show ¬ nI 13 = 4 by decide), if_neg (show ¬ nI 13 = 5 by decide), if_neg (show ¬ nI 13 = 6 by decide), if_neg (show ¬ nI 13 = 7 by decide), if_neg (show ¬ nI 13 = 8 by decide), if_neg (show ¬ nI 13 = 9 by decide), if_neg (show ¬ nI 13 = 10 by decide), if_neg (show ¬ nI 13 = 11 by decide), if_neg (show ¬ nI 13 = 12 by decide), if_pos (show nI 13 = 13 by decide)]
      rw [show M_X1_sumOfCopies σ 31 = some (smN g 3 (tN T)) from c_sum (j := 3) hQ (by decide), bnd1_some, bnd2_some, show M_X9_sumCopies τ1 4 = some (smN g 3 (tN T)) from m_sum (j := 3) hQ (by decide), bnd1_some]
      exact ⟨_, _, _, rfl, rfl, hR⟩
    · rw [if_neg (show ¬ nI 14 = 0 by decide), if_neg (show ¬ nI 14 = 1 by decide), if_neg (show ¬ nI 14 = 2 by decide), if_neg (show ¬ nI 14 = 3 by decide), if_neg (show ¬ nI 14 = 4 by decide), if_neg (show ¬ nI 14 = 5 by decide), if_neg (show ¬ nI 14 = 6 by decide), if_neg (show ¬ nI 14 = 7 by decide), if_neg (show ¬ nI 14 = 8 by decide), if_neg (show ¬ nI 14 = 9 by decide)]
      unfold M_X8_countFurther
      rw [if_neg (show ¬ nI 14 = 10 by decide), if_neg (show ¬ nI 14 = 11 by decide), if_neg (show ¬ nI 14 = 12 by decide), if_neg (show ¬ nI 14 = 13 by decide), if_pos (show nI 14 = 14 by decide)]
      rw [if_neg (show ¬ nI 14 = 0 by decide), if_neg (show ¬ nI 14 = 1 by decide), if_neg (show ¬ nI 14 = 2 by decide), if_neg (show ¬ nI 14 = 3 by decide), if_neg (show ¬ nI 14 = 4 by decide), if_neg (show ¬ nI 14 = 5 by decide), if_neg (show ¬ nI 14 = 6 by decide), if_neg (show ¬ nI 14 = 7 by decide), if_neg (show ¬ nI 14 = 8 by decide), if_neg (show ¬ nI 14 = 9 by decide), if_neg (show ¬ nI 14 = 10 by decide), if_neg (show ¬ nI 14 = 11 by decide), if_neg (show ¬ nI 14 = 12 by decide), if_neg (show ¬ nI 14 = 13 by decide), if_pos (show nI 14 = 14 by decide)]
      rw [c_all hQ, bnd1_some, bnd2_some, m_all hQ, bnd1_some]
      exact ⟨_, _, _, rfl, rfl, hR⟩
    · rw [if_neg (show ¬ nI 15 = 0 by decide), if_neg (show ¬ nI 15 = 1 by decide), if_neg (show ¬ nI 15 = 2 by decide), if_neg (show ¬ nI 15 = 3 by decide), if_neg (show ¬ nI 15 = 4 by decide), if_neg (show ¬ nI 15 = 5 by decide), if_neg (show ¬ nI 15 = 6 by decide), if_neg (show ¬ nI 15 = 7 by decide), if_neg (show ¬ nI 15 = 8 by decide), if_neg (show ¬ nI 15 = 9 by decide)]
      unfold M_X8_countFurther
      rw [if_neg (show ¬ nI 15 = 10 by decide), if_neg (show ¬ nI 15 = 11 by decide), if_neg (show ¬ nI 15 = 12 by decide), if_neg (show ¬ nI 15 = 13 by decide), if_neg (show ¬ nI 15 = 14 by decide), if_pos (show nI 15 = 15 by decide)]
      rw [if_neg (show ¬ nI 15 = 0 by decide), if_neg (show ¬ nI 15 = 1 by decide), if_neg (show ¬ nI 15 = 2 by decide), if_neg (show ¬ nI 15 = 3 by decide), if_neg (show ¬ nI 15 = 4 by decide), if_neg (show ¬ nI 15 = 5 by decide), if_neg (show ¬ nI 15 = 6 by decide), if_neg (show ¬ nI 15 = 7 by decide), if_neg (show ¬ nI 15 = 8 by decide), if_neg (show ¬ nI 15 = 9 by decide), if_neg (show ¬ nI 15 = 10 by decide), if_neg (show ¬ nI 15 = 11 by decide), if_neg (show ¬ nI 15 = 12 by decide), if_neg (show ¬ nI 15 = 13 by decide), if_neg (show ¬ nI 15 = 14 by decide), if_pos (show nI 15 = 15 by decide)]
      obtain ⟨x, q1, q2⟩ := c_hadAll hQ
      rw [q1, bnd1_some, cn64 (P := fun w => alB g w (tN T)) (W := gW g) (by omega) q2 (fun w hw => by
        have hw : alB g w (tN T) = true := hw
        obtain ⟨nn, hnn⟩ : ∃ nn, tN T = nn + 1 := ⟨tN T - 1, by omega⟩
        rw [hnn] at hw
        have hw : (alB g w nn && decide (gA g nn w = 1)) = true := hw
        rw [Bool.and_eq_true] at hw
        exact (hI.2.2.2.2.2.1 nn w (of_decide_eq_true hw.2)).1), bnd1_some, bnd2_some, m_hadAll hQ, bnd1_some]
      exact ⟨_, _, _, rfl, rfl, hR⟩
    · rw [if_neg (show ¬ nI 16 = 0 by decide), if_neg (show ¬ nI 16 = 1 by decide), if_neg (show ¬ nI 16 = 2 by decide), if_neg (show ¬ nI 16 = 3 by decide), if_neg (show ¬ nI 16 = 4 by decide), if_neg (show ¬ nI 16 = 5 by decide), if_neg (show ¬ nI 16 = 6 by decide), if_neg (show ¬ nI 16 = 7 by decide), if_neg (show ¬ nI 16 = 8 by decide), if_neg (show ¬ nI 16 = 9 by decide)]
      unfold M_X8_countFurther
      rw [if_neg (show ¬ nI 16 = 10 by decide), if_neg (show ¬ nI 16 = 11 by decide), if_neg (show ¬ nI 16 = 12 by decide), if_neg (show ¬ nI 16 = 13 by decide), if_neg (show ¬ nI 16 = 14 by decide), if_neg (show ¬ nI 16 = 15 by decide), if_pos (show nI 16 = 16 by decide)]
      rw [if_neg (show ¬ nI 16 = 0 by decide), if_neg (show ¬ nI 16 = 1 by decide), if_neg (show ¬ nI 16 = 2 by decide), if_neg (show ¬ nI 16 = 3 by decide), if_neg (show ¬ nI 16 = 4 by decide), if_neg (show ¬ nI 16 = 5 by decide), if_neg (show ¬ nI 16 = 6 by decide), if_neg (show ¬ nI 16 = 7 by decide), if_neg (show ¬ nI 16 = 8 by decide), if_neg (show ¬ nI 16 = 9 by decide), if_neg (show ¬ nI 16 = 10 by decide), if_neg (show ¬ nI 16 = 11 by decide), if_neg (show ¬ nI 16 = 12 by decide), if_neg (show ¬ nI 16 = 13 by decide), if_neg (show ¬ nI 16 = 14 by decide), if_neg (show ¬ nI 16 = 15 by decide), if_pos (show nI 16 = 16 by decide)]
      rw [c_refused hQ, bnd1_some, bnd2_some, m_refused hQ, bnd1_some]
      exact ⟨_, _, _, rfl, rfl, hR⟩
    · rw [if_neg (show ¬ nI 17 = 0 by decide), if_neg (show ¬ nI 17 = 1 by decide), if_neg (show ¬ nI 17 = 2 by decide), if_neg (show ¬ nI 17 = 3 by decide), if_neg (show ¬ nI 17 = 4 by decide), if_neg (show ¬ nI 17 = 5 by decide), if_neg (show ¬ nI 17 = 6 by decide), if_neg (show ¬ nI 17 = 7 by decide), if_neg (show ¬ nI 17 = 8 by decide), if_neg (show ¬ nI 17 = 9 by decide)]
      unfold M_X8_countFurther
      rw [if_neg (show ¬ nI 17 = 10 by decide), if_neg (show ¬ nI 17 = 11 by decide), if_neg (show ¬ nI 17 = 12 by decide), if_neg (show ¬ nI 17 = 13 by decide), if_neg (show ¬ nI 17 = 14 by decide), if_neg (show ¬ nI 17 = 15 by decide), if_neg (show ¬ nI 17 = 16 by decide), if_pos (show nI 17 = 17 by decide)]
      rw [if_neg (show ¬ nI 17 = 0 by decide), if_neg (show ¬ nI 17 = 1 by decide), if_neg (show ¬ nI 17 = 2 by decide), if_neg (show ¬ nI 17 = 3 by decide), if_neg (show ¬ nI 17 = 4 by decide), if_neg (show ¬ nI 17 = 5 by decide), if_neg (show ¬ nI 17 = 6 by decide), if_neg (show ¬ nI 17 = 7 by decide), if_neg (show ¬ nI 17 = 8 by decide), if_neg (show ¬ nI 17 = 9 by decide), if_neg (show ¬ nI 17 = 10 by decide), if_neg (show ¬ nI 17 = 11 by decide), if_neg (show ¬ nI 17 = 12 by decide), if_neg (show ¬ nI 17 = 13 by decide), if_neg (show ¬ nI 17 = 14 by decide), if_neg (show ¬ nI 17 = 15 by decide), if_neg (show ¬ nI 17 = 16 by decide), if_pos (show nI 17 = 17 by decide)]
      obtain ⟨r, σ', τ', q1, q2, q3⟩ := st_17 σ τ1 hR (nI (gP g)) 7
      have e8 : M_X8_copy σ (nI (gP g)) 7 = bnd2 (M_X8_mergedOf σ (nI (gP g))) fun r s => some (r, s) := by
        unfold M_X8_copy
        rw [c_isCopy_t ht h4 hTC.1.1 (by omega) hP, bnd1_some, if_pos n01]
        rfl
      rw [e8] at q1
      rw [show M_X1_primary σ = some (nI (gP g)) from c_primary hQ.2.1.1.2.1, bnd1_some, q1, bnd2_some, chk_pos (by decide), show gI τ1 26 (ix (2 : Int32)) = nI (gP g) from hQ.2.2.2.1.1.2.2.1, q2, bnd2_some]
      exact ⟨_, _, _, rfl, rfl, q3⟩
    · rw [if_neg (show ¬ nI 18 = 0 by decide), if_neg (show ¬ nI 18 = 1 by decide), if_neg (show ¬ nI 18 = 2 by decide), if_neg (show ¬ nI 18 = 3 by decide), if_neg (show ¬ nI 18 = 4 by decide), if_neg (show ¬ nI 18 = 5 by decide), if_neg (show ¬ nI 18 = 6 by decide), if_neg (show ¬ nI 18 = 7 by decide), if_neg (show ¬ nI 18 = 8 by decide), if_neg (show ¬ nI 18 = 9 by decide)]
      unfold M_X8_countFurther
      rw [if_neg (show ¬ nI 18 = 10 by decide), if_neg (show ¬ nI 18 = 11 by decide), if_neg (show ¬ nI 18 = 12 by decide), if_neg (show ¬ nI 18 = 13 by decide), if_neg (show ¬ nI 18 = 14 by decide), if_neg (show ¬ nI 18 = 15 by decide), if_neg (show ¬ nI 18 = 16 by decide), if_neg (show ¬ nI 18 = 17 by decide), if_pos (show nI 18 = 18 by decide)]
      rw [if_neg (show ¬ nI 18 = 0 by decide), if_neg (show ¬ nI 18 = 1 by decide), if_neg (show ¬ nI 18 = 2 by decide), if_neg (show ¬ nI 18 = 3 by decide), if_neg (show ¬ nI 18 = 4 by decide), if_neg (show ¬ nI 18 = 5 by decide), if_neg (show ¬ nI 18 = 6 by decide), if_neg (show ¬ nI 18 = 7 by decide), if_neg (show ¬ nI 18 = 8 by decide), if_neg (show ¬ nI 18 = 9 by decide), if_neg (show ¬ nI 18 = 10 by decide), if_neg (show ¬ nI 18 = 11 by decide), if_neg (show ¬ nI 18 = 12 by decide), if_neg (show ¬ nI 18 = 13 by decide), if_neg (show ¬ nI 18 = 14 by decide), if_neg (show ¬ nI 18 = 15 by decide), if_neg (show ¬ nI 18 = 16 by decide), if_neg (show ¬ nI 18 = 17 by decide), if_pos (show nI 18 = 18 by decide)]
      obtain ⟨r, σ', τ', q1, q2, q3⟩ := st_17 σ τ1 hR (nI (gP g)) 8
      have e8 : M_X8_copy σ (nI (gP g)) 8 = bnd2 (M_X8_idleOrStuckOf σ (nI (gP g))) fun r s => some (r, s) := by
        unfold M_X8_copy
        rw [c_isCopy_t ht h4 hTC.1.1 (by omega) hP, bnd1_some, if_pos n01]
        rfl
      rw [e8] at q1
      rw [show M_X1_primary σ = some (nI (gP g)) from c_primary hQ.2.1.1.2.1, bnd1_some, q1, bnd2_some, chk_pos (by decide), show gI τ1 26 (ix (2 : Int32)) = nI (gP g) from hQ.2.2.2.1.1.2.2.1, q2, bnd2_some]
      exact ⟨_, _, _, rfl, rfl, q3⟩
  · have hne : ∀ k, k < 19 → ¬ b = nI k := fun k hk z => by
      rcases hb with hb | hb
      · exact nI_n0 (show k < 2 ^ 31 by omega) (by rw [← z]; exact hb)
      · rw [z] at hb
        have := (nI_leI (by decide) (by omega)).mp hb
        omega
    unfold M_X8_countFurther
    rw [if_neg (show ¬ b = 0 from hne 0 (by decide)), if_neg (show ¬ b = 1 from hne 1 (by decide)), if_neg (show ¬ b = 2 from hne 2 (by decide)), if_neg (show ¬ b = 3 from hne 3 (by decide)), if_neg (show ¬ b = 4 from hne 4 (by decide)), if_neg (show ¬ b = 5 from hne 5 (by decide)), if_neg (show ¬ b = 6 from hne 6 (by decide)), if_neg (show ¬ b = 7 from hne 7 (by decide)), if_neg (show ¬ b = 8 from hne 8 (by decide)), if_neg (show ¬ b = 9 from hne 9 (by decide)), if_neg (show ¬ b = 10 from hne 10 (by decide)), if_neg (show ¬ b = 11 from hne 11 (by decide)), if_neg (show ¬ b = 12 from hne 12 (by decide)), if_neg (show ¬ b = 13 from hne 13 (by decide)), if_neg (show ¬ b = 14 from hne 14 (by decide)), if_neg (show ¬ b = 15 from hne 15 (by decide)), if_neg (show ¬ b = 16 from hne 16 (by decide)), if_neg (show ¬ b = 17 from hne 17 (by decide)), if_neg (show ¬ b = 18 from hne 18 (by decide)), bnd2_some]
    rw [if_neg (show ¬ b = 0 from hne 0 (by decide)), if_neg (show ¬ b = 1 from hne 1 (by decide)), if_neg (show ¬ b = 2 from hne 2 (by decide)), if_neg (show ¬ b = 3 from hne 3 (by decide)), if_neg (show ¬ b = 4 from hne 4 (by decide)), if_neg (show ¬ b = 5 from hne 5 (by decide)), if_neg (show ¬ b = 6 from hne 6 (by decide)), if_neg (show ¬ b = 7 from hne 7 (by decide)), if_neg (show ¬ b = 8 from hne 8 (by decide)), if_neg (show ¬ b = 9 from hne 9 (by decide)), if_neg (show ¬ b = 10 from hne 10 (by decide)), if_neg (show ¬ b = 11 from hne 11 (by decide)), if_neg (show ¬ b = 12 from hne 12 (by decide)), if_neg (show ¬ b = 13 from hne 13 (by decide)), if_neg (show ¬ b = 14 from hne 14 (by decide)), if_neg (show ¬ b = 15 from hne 15 (by decide)), if_neg (show ¬ b = 16 from hne 16 (by decide)), if_neg (show ¬ b = 17 from hne 17 (by decide)), if_neg (show ¬ b = 18 from hne 18 (by decide))]
    exact ⟨_, _, _, rfl, rfl, hR⟩
