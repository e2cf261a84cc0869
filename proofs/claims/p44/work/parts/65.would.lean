/-! would, meet -/
theorem Qd.mid {T : Td} {t l : Nat} {g : Gs} {σ τ : Wd} (h : Qd T t l g σ τ) : Mid T g σ τ g σ τ := ⟨FC.refl, KM.refl, rfl, h.2.1, h.2.2.1, h.2.2.2.1, h.2.2.2.2.1, Nat.le_refl _, Nat.le_refl _⟩
theorem q_two {T : Td} {t l : Nat} {σ τ : Wd} (hT : RText T t l σ τ) (a b : Int32) : (∃ c d, c < tN T ∧ d < tN T ∧ c ≠ d ∧ a = nI c ∧ b = nI d ∧ M_X8_areTwoCopies σ a b = some 1 ∧ M_X9_areTwo τ a b = some 1) ∨ (M_X8_areTwoCopies σ a b = some 0 ∧ M_X9_areTwo τ a b = some 0) := by
  have hn := hT.2.2.2.2.2.1.2.1
  unfold M_X8_areTwoCopies M_X9_areTwo
  rcases q_isCopy hT a with ⟨c, hc5, rfl, e1, e2⟩ | ⟨e1, e2⟩
  · rcases q_isCopy hT b with ⟨d, hd5, rfl, f1, f2⟩ | ⟨f1, f2⟩
    · rw [are_t e1 f1, bnd1_some, if_neg n10, e2, bnd1_some, if_neg n10, f2, bnd1_some, if_neg n10]
      by_cases hcd : nI c = nI d
      · rw [if_pos hcd]
        exact Or.inr ⟨rfl, rfl⟩
      · rw [if_neg hcd]
        exact Or.inl ⟨c, d, hc5, hd5, fun z => hcd (by rw [z]), rfl, rfl, rfl, rfl⟩
    · rw [are_g e1 f1, bnd1_some, if_pos rfl, e2, bnd1_some, if_neg n10, f2, bnd1_some, if_pos rfl]
      exact Or.inr ⟨rfl, rfl⟩
  · rw [are_f e1, bnd1_some, if_pos rfl, e2, bnd1_some, if_pos rfl]
    exact Or.inr ⟨rfl, rfl⟩
theorem c_would {T : Td} {t l : Nat} {g : Gs} {σ τ : Wd} (h : Qd T t l g σ τ) {a b : Nat} (ha : a < 5) (hb : b < 5) : ∃ s F F', AlS (lgf g (hsP g b) (gK g b)) (lgf g (unP g a b) (max (gK g b) (gK g a))) (lgn g (hsP g b) (gK g b)) (lgn g (unP g a b) (max (gK g b) (gK g a))) s ∧ M_X1_wouldRoll σ (nI a) (nI b) = some (nI (lgn g (hsP g b) (gK g b)) - nI s, rI (rI σ 35 F) 36 F') := by
  obtain ⟨hW, hO, hP, hn⟩ := q_bd h
  have hI := h.2.2.2.2.1
  have ka := hI.2.2.1 a ha
  have kb := hI.2.2.1 b hb
  obtain ⟨F, c1, c2⟩ := c_lay (a := 35) (P := hsP g b) h (by decide) kb (q_bits h hb)
  have h2 := h.rI (a := 35) (f := F) (by decide)
  obtain ⟨F', d1, d2⟩ := c_lay (a := 36) (k := max (gK g b) (gK g a)) (x := gL σ 29 (6 + a) ||| gL σ 29 (6 + b)) (P := unP g a b) h2 (by decide) (by omega) (fun w hw => by
    rw [Int64.toBitVec_or, BitVec.getLsbD_or, q_set h ha (by omega), q_set h hb (by omega)]
    rfl)
  have lf := lg_facts hI hb
  have lu := lg_all (P := unP g a b) (k := max (gK g b) (gK g a)) hI (by omega) (Nat.le_refl _) (lg_inv (R := lgR g (unP g a b) (max (gK g b) (gK g a))) (g := g) (k := max (gK g b) (gK g a)) (gW g))
  have lu3 : lgn g (unP g a b) (max (gK g b) (gK g a)) ≤ gW g := lu.2.2
  obtain ⟨s, a1, a2⟩ := c_alike (σ := rI (rI σ 35 F) 36 F') (a := 35) (b := 36) (f := lgf g (hsP g b) (gK g b)) (h := lgf g (unP g a b) (max (gK g b) (gK g a))) (show lgn g (hsP g b) (gK g b) ≤ 60 by omega) (show lgn g (unP g a b) (max (gK g b) (gK g a)) ≤ 60 by omega) (fun i hi => ⟨by rw [gI_rI_n (by decide), gI_rI_s]; exact c2 i hi, by have := lf.1 i hi; omega⟩) (fun i hi => ⟨gI_rI_s.trans (d2 i hi), Nat.lt_of_lt_of_le (lu.1 i hi) hW⟩)
  refine ⟨s, F, F', a1, ?_⟩
  have eM : (if nI (gK g a) < nI (gK g b) then nI (gK g b) else nI (gK g a)) = nI (max (gK g b) (gK g a)) := by
    by_cases q : gK g a < gK g b
    · rw [if_pos ((nI_ltI (by omega) (by omega)).mpr q), Nat.max_eq_left (by omega)]
    · rw [if_neg (fun z => q ((nI_ltI (by omega) (by omega)).mp z)), Nat.max_eq_right (by omega)]
  unfold M_X1_wouldRoll
  rw [c_setOf hb, bnd1_some, (q_known h hb).1, bnd1_some, c1, bnd2_some, c_setOf ha, bnd1_some, c_setOf hb, bnd1_some, (q_known h2 ha).1, bnd1_some, (q_known h2 hb).1, bnd1_some, eM]
  show bnd2 (M_X1_layLog (rI σ 35 F) (gL σ 29 (6 + a) ||| gL σ 29 (6 + b)) (nI (max (gK g b) (gK g a))) 36 60) _ = _
  rw [d1, bnd2_some]
  show bnd1 (M_X1_alikeFromStart _ 35 60 (nI (lgn g (hsP g b) (gK g b))) 36 60 (nI (lgn g (unP g a b) (max (gK g b) (gK g a))))) _ = _
  rw [a2, bnd1_some]
  rfl
theorem st_23 : Sp_23 Rel := by
  intro σ τ h a b
  obtain ⟨T, t, l, g, τ1, hc, hK, hR, hQ, hT⟩ := ask_start h
  obtain ⟨hW, hO, hP, hn⟩ := q_bd hQ
  unfold M_X8_would M_X9_would
  rcases q_two hT a b with ⟨c, d, hc5, hd5, hcd, rfl, rfl, e1, e2⟩ | ⟨e1, e2⟩
  · obtain ⟨s, F, F', a1, a2⟩ := c_would (a := c) (b := d) hQ (by omega) (by omega)
    obtain ⟨s', g', σ', τ', b1, b2, b3, b4, b5⟩ := hQ.mid.meet hQ.1 hc5 hd5 hcd
    obtain rfl := AlS_u a1 b1
    rw [e1, bnd1_some, if_neg n10, a2, bnd2_some, e2, bnd1_some, if_pos n01, hc, bnd1_some, b3, bnd2_some]
    exact ⟨_, _, _, rfl, rfl, Rel_KC (KC.wI (fun z => z.2.2 rfl) (KC.wI (fun z => z.2.1 rfl) KC.refl)) (Rel_KM b4.2.1 hR)⟩
  · rw [e1, bnd1_some, if_pos rfl, e2, bnd1_some, if_neg z00]
    exact ⟨_, _, _, rfl, rfl, h⟩
theorem st_8 : Sp_8 Rel := by
  intro σ τ h a b
  have h0 := h
  obtain ⟨T, t, l, g, hT, hN, σ1, τ1, hk, hc, ⟨hKM, hS⟩, hT1, hm, hend⟩ := lay_start h
  unfold M_X8_meet M_X9_meet
  rcases q_two hT a b with ⟨c, d, hc5, hd5, hcd, rfl, rfl, e1, e2⟩ | ⟨e1, e2⟩
  · obtain ⟨s, g', σ', τ', b1, b2, b3, b4, b5⟩ := hm.meet hT1 hc5 hd5 hcd
    obtain ⟨τ3, z1, z2⟩ := hend _ _ _ b4
    rw [e1, bnd1_some, if_pos n01, hk, bnd1_some, b2, bnd2_some, e2, bnd1_some, if_pos n01, hc, bnd1_some, b3, bnd2_some, z1, bnd1_some]
    exact ⟨_, _, _, rfl, rfl, z2⟩
  · rw [e1, bnd1_some, if_neg z00, e2, bnd1_some, if_neg z00]
    exact ⟨_, _, _, rfl, rfl, h0⟩
