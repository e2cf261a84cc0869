/-! how many came out so; copy -/
theorem c_many {T : Td} {g : Gs} {c q : Nat} {σ : Wd} {v : Int32} {B : Nat → Bool} (hp : PlC T g c q σ) (hN : ln g c ≤ 60) (hB : ∀ i, i < ln g c → (outS T g (lf g c) i = v ↔ B i = true)) : M_X4_manyOf σ q v = some (nI (cnN B (ln g c))) := by
  obtain ⟨x, h1, h2⟩ := ow_for (body := fun s : Int32 × Int32 => M_X4_manyOf_L4 q σ v s.1 s.2) (Q := fun x => x = nI (cnN B (ln g c))) (fun i s => s = (nI (cnN B i), nI i)) (ln g c) (FU_big (by omega)) (fun i s hi hs => by
    subst hs
    show ow (M_X4_manyOf_L4 q σ v (nI (cnN B i)) (nI i)) _
    have e1 : cnN B (i + 1) = if B i = true then cnN B i + 1 else cnN B i := rfl
    unfold M_X4_manyOf_L4
    rw [hp.1, if_neg (fun z => by have := (nI_leI (by omega) (by omega)).mp z; omega), chk_pos ((ib_nI (by omega)).mpr (by omega)), ix_nI (by omega), (hp.2.2.1 i hi).1, nI_1, nI_1]
    by_cases h : outS T g (lf g c) i = v
    · rw [if_neg (fun z => z h)]
      refine ow_some.mpr ?_
      show _ = _
      rw [e1, if_pos ((hB i hi).mp h)]
    · rw [if_pos h]
      refine ow_some.mpr ?_
      show _ = _
      rw [e1, if_neg (fun z => h ((hB i hi).mpr z))]) (fun s hs => by
    subst hs
    show ow (M_X4_manyOf_L4 q σ v (nI (cnN B (ln g c))) (nI (ln g c))) _
    unfold M_X4_manyOf_L4
    rw [hp.1, if_pos ((nI_leI (by omega) (by omega)).mpr (Nat.le_refl _))]
    exact ow_some.mpr rfl) 0 ((0 : Int32), (0 : Int32)) (Nat.zero_le _) rfl
  unfold M_X4_manyOf
  rw [show iter (fun s : Int32 × Int32 => M_X4_manyOf_L4 q σ v s.1 s.2) FU ((0 : Int32), (0 : Int32)) = some x from h1, h2]
  rfl
theorem m_many {T : Td} {g : Gs} {c : Nat} {τ : Wd} {lo hi : Int32} {B : Nat → Bool} (hp : PlM T g c τ) (hN : ln g c ≤ 60) (hB : ∀ i, i < ln g c → M_X9_in (outS T g (lf g c) i) lo hi = some (if B i = true then 1 else 0)) : M_X9_outcomes τ lo hi = some (nI (cnN B (ln g c))) := by
  obtain ⟨x, h1, h2⟩ := ow_for (body := fun s : Int32 × Int32 => M_X9_outcomes_L5 τ lo hi s.1 s.2) (Q := fun x => x = nI (cnN B (ln g c))) (fun i s => s = (nI (cnN B i), nI i)) (ln g c) (FU_big (by omega)) (fun i s hi' hs => by
    subst hs
    show ow (M_X9_outcomes_L5 τ lo hi (nI (cnN B i)) (nI i)) _
    have e1 : cnN B (i + 1) = if B i = true then cnN B i + 1 else cnN B i := rfl
    unfold M_X9_outcomes_L5
    rw [hp.1, if_neg (fun z => by have := (nI_leI (by omega) (by omega)).mp z; omega), chk_pos ((ib_nI (by omega)).mpr (by omega)), ix_nI (by omega), (hp.2.2.1 i hi').1, hB i hi', bnd1_some, nI_1, nI_1]
    by_cases h : B i = true
    · rw [if_pos h, if_neg n10]
      refine ow_some.mpr ?_
      show _ = _
      rw [e1, if_pos h]
    · rw [if_neg h, if_pos rfl]
      refine ow_some.mpr ?_
      show _ = _
      rw [e1, if_neg h]) (fun s hs => by
    subst hs
    show ow (M_X9_outcomes_L5 τ lo hi (nI (cnN B (ln g c))) (nI (ln g c))) _
    unfold M_X9_outcomes_L5
    rw [hp.1, if_pos ((nI_leI (by omega) (by omega)).mpr (Nat.le_refl _))]
    exact ow_some.mpr rfl) 0 ((0 : Int32), (0 : Int32)) (Nat.zero_le _) rfl
  unfold M_X9_outcomes
  rw [show iter (fun s : Int32 × Int32 => M_X9_outcomes_L5 τ lo hi s.1 s.2) FU ((0 : Int32), (0 : Int32)) = some x from h1, h2]
  rfl
theorem cnN_or {P Q R : Nat → Bool} : ∀ k, (∀ i, i < k → (R i = (P i || Q i)) ∧ ¬ (P i = true ∧ Q i = true)) → cnN P k + cnN Q k = cnN R k := by
  intro k
  induction k with
  | zero => intro _; rfl
  | succ k ih =>
    intro h
    have e := ih (fun i hi => h i (by omega))
    obtain ⟨h1, h2⟩ := h k (by omega)
    show (if P k = true then cnN P k + 1 else cnN P k) + (if Q k = true then cnN Q k + 1 else cnN Q k) = (if R k = true then cnN R k + 1 else cnN R k)
    cases hp : P k <;> cases hq : Q k <;> simp [hp, hq] at h1 h2 ⊢ <;> simp [h1] <;> omega
theorem two_done {T : Td} {t l : Nat} {g : Gs} {σ τ : Wd} (h : Qd T t l g σ τ) {c : Nat} (hc : c < 5) : ∃ σ' τ' r7 r8, M_X8_mergedOf σ (nI c) = some (r7, σ') ∧ M_X8_idleOrStuckOf σ (nI c) = some (r8, σ') ∧ M_X9_doesAll τ (nI c) = some τ' ∧ M_X9_outcomes τ' 1 1 = some r7 ∧ M_X9_outcomes τ' 2 3 = some r8 ∧ KC σ σ' ∧ KQ τ τ' ∧ gI τ' 0 45 = nI (ln g c) := by
  obtain ⟨hW, hO, hP, hn⟩ := q_bd h
  obtain ⟨ht, h4, hl, h18, hTI, hTC, hTM⟩ := gR_mid h.1
  have hI := h.2.2.2.2.1
  obtain ⟨σ', p1, p2, p3⟩ := c_play h (q := 108) (c := c) (by decide) hc
  obtain ⟨τ', m1, m2, m3, _⟩ := m_doesAll h hc
  have lx := ln_facts hI hc
  have hN : ln g c ≤ 60 := Nat.le_trans lx.2.2.1 hW
  have ho : ∀ i, i < ln g c → outS T g (lf g c) i = 0 ∨ outS T g (lf g c) i = 1 ∨ outS T g (lf g c) i = 2 ∨ outS T g (lf g c) i = 3 := fun i hi => (do_out (e := envS T g (lf g c) i) hTI (hI.2.2.2.2.2.2.2.2.2.1 _ (lx.1 i hi)).1).1
  have k1 := c_many (B := fun i => decide (outS T g (lf g c) i = 1)) (v := 1) p3 hN (fun i _ => by simp)
  have k2 := c_many (B := fun i => decide (outS T g (lf g c) i = 2)) (v := 2) p3 hN (fun i _ => by simp)
  have k3 := c_many (B := fun i => decide (outS T g (lf g c) i = 3)) (v := 3) p3 hN (fun i _ => by simp)
  have n1 := m_many (B := fun i => decide (outS T g (lf g c) i = 1)) (lo := 1) (hi := 1) m3 hN (fun i hi => by
    rcases ho i hi with z | z | z | z <;> simp only [z] <;> decide)
  have n2 := m_many (B := fun i => decide (outS T g (lf g c) i = 2) || decide (outS T g (lf g c) i = 3)) (lo := 2) (hi := 3) m3 hN (fun i hi => by
    rcases ho i hi with z | z | z | z <;> simp only [z] <;> decide)
  have e := cnN_or (P := fun i => decide (outS T g (lf g c) i = 2)) (Q := fun i => decide (outS T g (lf g c) i = 3)) (R := fun i => decide (outS T g (lf g c) i = 2) || decide (outS T g (lf g c) i = 3)) (ln g c) (fun i hi => ⟨rfl, fun z => by
    have z1 : outS T g (lf g c) i = 2 := of_decide_eq_true z.1
    have z2 : outS T g (lf g c) i = 3 := of_decide_eq_true z.2
    rw [z1] at z2
    exact absurd z2 (by decide)⟩)
  refine ⟨σ', τ', _, _, ?_, ?_, m1, n1, n2, p2.kc (by decide), m2, m3.1⟩
  · unfold M_X8_mergedOf
    rw [h4, chk_pos ht, p1, bnd1_some, k1, bnd1_some]
  · unfold M_X8_idleOrStuckOf
    rw [h4, chk_pos ht, p1, bnd1_some, k2, bnd1_some, k3, bnd1_some, nI_add, e]
theorem st_17 : Sp_17 Rel := by
  intro σ τ h a b
  obtain ⟨T, t, l, g, τ1, hc, hK, hR, hQ, hT⟩ := ask_start h
  obtain ⟨hW, hO, hP, hn⟩ := q_bd hQ
  have hI := hQ.2.2.2.2.1
  unfold M_X8_copy M_X9_copy
  rcases q_isCopy hT a with ⟨c, hc5, rfl, e1, e2⟩ | ⟨e1, e2⟩
  · have hc5' : c < 5 := by omega
    rw [e1, bnd1_some, if_pos n01, e2, bnd1_some, if_neg n10]
    rcases bd_cases b (n := 9) (by decide) with ⟨k, hk, rfl⟩ | hb
    · obtain ⟨σ', τ', r7, r8, p1, p2, p3, p4, p5, p6, p7, p8⟩ := two_done hQ hc5'
      have hQ' := hQ.kq p7
      have hR' : Rel σ τ' := Rel_KM p7.1 hR
      rw [show (8 : Int32) = nI 8 from rfl, m_inl_t (by omega) (by decide), bnd1_some, if_pos n01, hc, bnd1_some, p3, bnd1_some]
      have cnt : ∀ j, j < 4 → M_X1_copyNumber σ (nI (16 + 5 * j)) (nI c) = some (iC g j c) ∧ M_X9_ofCopy τ' (nI c) (nI (1 + j)) = some (iC g j c) := fun j hj => q_cnt hQ' hj hc5'
      rcases (show k = 0 ∨ k = 1 ∨ k = 2 ∨ k = 3 ∨ k = 4 ∨ k = 5 ∨ k = 6 ∨ k = 7 ∨ k = 8 by omega) with rfl | rfl | rfl | rfl | rfl | rfl | rfl | rfl | rfl
      · rw [if_pos (show nI 0 = 0 by decide), if_pos (show nI 0 = 0 by decide), c_clk hQ hc5', bnd1_some, m_clk hQ' hc5', bnd1_some]
        exact ⟨_, _, _, rfl, rfl, hR'⟩
      · rw [if_neg (show ¬ nI 1 = 0 by decide), if_neg (show ¬ nI 1 = 0 by decide), if_pos (show nI 1 = 1 by decide), if_pos (show nI 1 = 1 by decide), c_setOf hc5', bnd1_some, c_count hQ hc5', bnd1_some, p8, show ln g c = cnN (hsP g c) (gW g) from lgn_cn hI hc5']
        exact ⟨_, _, _, rfl, rfl, hR'⟩
      · rw [if_neg (show ¬ nI 2 = 0 by decide), if_neg (show ¬ nI 2 = 0 by decide), if_neg (show ¬ nI 2 = 1 by decide), if_neg (show ¬ nI 2 = 1 by decide), if_pos (show nI 2 = 2 by decide), (q_known hQ hc5').1, bnd1_some, if_neg (show ¬ nI 2 = 7 by decide), if_neg (show ¬ nI 2 = nI 8 by decide), show nI 2 - 2 = (0 : Int32) by decide, (q_known hQ' hc5').2, bnd1_some]
        exact ⟨_, _, _, rfl, rfl, hR'⟩
      · rw [if_neg (show ¬ nI 3 = 0 by decide), if_neg (show ¬ nI 3 = 0 by decide), if_neg (show ¬ nI 3 = 1 by decide), if_neg (show ¬ nI 3 = 1 by decide), if_neg (show ¬ nI 3 = 2 by decide), if_pos (show nI 3 = 3 by decide), show M_X1_copyNumber σ 16 (nI c) = some (iC g 0 c) from (cnt 0 (by decide)).1, bnd1_some, if_neg (show ¬ nI 3 = 7 by decide), if_neg (show ¬ nI 3 = nI 8 by decide), show nI 3 - 2 = nI (1 + 0) by decide, (cnt 0 (by decide)).2, bnd1_some]
        exact ⟨_, _, _, rfl, rfl, hR'⟩
      · rw [if_neg (show ¬ nI 4 = 0 by decide), if_neg (show ¬ nI 4 = 0 by decide), if_neg (show ¬ nI 4 = 1 by decide), if_neg (show ¬ nI 4 = 1 by decide), if_neg (show ¬ nI 4 = 2 by decide), if_neg (show ¬ nI 4 = 3 by decide), if_pos (show nI 4 = 4 by decide), show M_X1_copyNumber σ 21 (nI c) = some (iC g 1 c) from (cnt 1 (by decide)).1, bnd1_some, if_neg (show ¬ nI 4 = 7 by decide), if_neg (show ¬ nI 4 = nI 8 by decide), show nI 4 - 2 = nI (1 + 1) by decide, (cnt 1 (by decide)).2, bnd1_some]
        exact ⟨_, _, _, rfl, rfl, hR'⟩
      · rw [if_neg (show ¬ nI 5 = 0 by decide), if_neg (show ¬ nI 5 = 0 by decide), if_neg (show ¬ nI 5 = 1 by decide), if_neg (show ¬ nI 5 = 1 by decide), if_neg (show ¬ nI 5 = 2 by decide), if_neg (show ¬ nI 5 = 3 by decide), if_neg (show ¬ nI 5 = 4 by decide), if_pos (show nI 5 = 5 by decide), show M_X1_copyNumber σ 26 (nI c) = some (iC g 2 c) from (cnt 2 (by decide)).1, bnd1_some, if_neg (show ¬ nI 5 = 7 by decide), if_neg (show ¬ nI 5 = nI 8 by decide), show nI 5 - 2 = nI (1 + 2) by decide, (cnt 2 (by decide)).2, bnd1_some]
        exact ⟨_, _, _, rfl, rfl, hR'⟩
      · rw [if_neg (show ¬ nI 6 = 0 by decide), if_neg (show ¬ nI 6 = 0 by decide), if_neg (show ¬ nI 6 = 1 by decide), if_neg (show ¬ nI 6 = 1 by decide), if_neg (show ¬ nI 6 = 2 by decide), if_neg (show ¬ nI 6 = 3 by decide), if_neg (show ¬ nI 6 = 4 by decide), if_neg (show ¬ nI 6 = 5 by decide), if_pos (show nI 6 = 6 by decide), show M_X1_copyNumber σ 31 (nI c) = some (iC g 3 c) from (cnt 3 (by decide)).1, bnd1_some, if_neg (show ¬ nI 6 = 7 by decide), if_neg (show ¬ nI 6 = nI 8 by decide), show nI 6 - 2 = nI (1 + 3) by decide, (cnt 3 (by decide)).2, bnd1_some]
        exact ⟨_, _, _, rfl, rfl, hR'⟩
      · rw [if_neg (show ¬ nI 7 = 0 by decide), if_neg (show ¬ nI 7 = 0 by decide), if_neg (show ¬ nI 7 = 1 by decide), if_neg (show ¬ nI 7 = 1 by decide), if_neg (show ¬ nI 7 = 2 by decide), if_neg (show ¬ nI 7 = 3 by decide), if_neg (show ¬ nI 7 = 4 by decide), if_neg (show ¬ nI 7 = 5 by decide), if_neg (show ¬ nI 7 = 6 by decide), if_pos (show nI 7 = 7 by decide), p1, bnd2_some, if_pos (show nI 7 = 7 by decide), p4, bnd1_some]
        exact ⟨_, _, _, rfl, rfl, Rel_KC p6 hR'⟩
      · rw [if_neg (show ¬ nI 8 = 0 by decide), if_neg (show ¬ nI 8 = 0 by decide), if_neg (show ¬ nI 8 = 1 by decide), if_neg (show ¬ nI 8 = 1 by decide), if_neg (show ¬ nI 8 = 2 by decide), if_neg (show ¬ nI 8 = 3 by decide), if_neg (show ¬ nI 8 = 4 by decide), if_neg (show ¬ nI 8 = 5 by decide), if_neg (show ¬ nI 8 = 6 by decide), if_neg (show ¬ nI 8 = 7 by decide), if_pos rfl, p2, bnd2_some, if_neg (show ¬ nI 8 = 7 by decide), if_pos rfl, p5, bnd1_some]
        exact ⟨_, _, _, rfl, rfl, Rel_KC p6 hR'⟩
    · have hne : ∀ k, k < 9 → ¬ b = nI k := fun k hk z => by
        rcases hb with hb | hb
        · exact nI_n0 (show k < 2 ^ 31 by omega) (by rw [← z]; exact hb)
        · rw [z] at hb
          have := (nI_leI (by decide) (by omega)).mp hb
          omega
      rw [show (8 : Int32) = nI 8 from rfl, m_inl_f hb (by decide), bnd1_some, if_neg z00, if_neg (show ¬ b = 0 from hne 0 (by decide)), if_neg (show ¬ b = 1 from hne 1 (by decide)), if_neg (show ¬ b = 2 from hne 2 (by decide)), if_neg (show ¬ b = 3 from hne 3 (by decide)), if_neg (show ¬ b = 4 from hne 4 (by decide)), if_neg (show ¬ b = 5 from hne 5 (by decide)), if_neg (show ¬ b = 6 from hne 6 (by decide)), if_neg (show ¬ b = 7 from hne 7 (by decide)), if_neg (hne 8 (by decide))]
      exact ⟨_, _, _, rfl, rfl, h⟩
  · rw [e1, bnd1_some, if_neg z00, e2, bnd1_some, if_pos rfl]
    exact ⟨_, _, _, rfl, rfl, h⟩
