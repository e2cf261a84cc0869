/-! what one copy has and another lacks; alike -/
def lkN (g : Gs) (a b : Nat) : Nat → Nat
  | 0 => 0
  | k + 1 => if gA g a k = 1 ∧ gA g b k ≠ 1 then lkN g a b k + 1 else lkN g a b k
theorem lkN_le {g : Gs} {a b : Nat} : ∀ k, lkN g a b k ≤ k := by
  intro k
  induction k with
  | zero => exact Nat.le_refl _
  | succ k ih =>
    show (if _ then _ else _) ≤ k + 1
    by_cases h : gA g a k = 1 ∧ gA g b k ≠ 1
    · rw [if_pos h]; omega
    · rw [if_neg h]; omega
theorem lkN_0 {g : Gs} {a b : Nat} : ∀ k, lkN g a b k = 0 ↔ ∀ w, w < k → gA g a w = 1 → gA g b w = 1 := by
  intro k
  induction k with
  | zero => exact ⟨fun _ w hw => absurd hw (by omega), fun _ => rfl⟩
  | succ k ih =>
    show (if gA g a k = 1 ∧ gA g b k ≠ 1 then lkN g a b k + 1 else lkN g a b k) = 0 ↔ _
    by_cases h : gA g a k = 1 ∧ gA g b k ≠ 1
    · rw [if_pos h]
      exact ⟨fun z => absurd z (by omega), fun z => absurd (z k (by omega) h.1) h.2⟩
    · rw [if_neg h, ih]
      constructor
      · intro z w hw hA
        by_cases hk : w = k
        · subst hk
          exact Classical.byContradiction fun q => h ⟨hA, q⟩
        · exact z w (by omega) hA
      · intro z w hw
        exact z w (by omega)
section QY
variable {T : Td} {t l : Nat} {g : Gs} {σ τ : Wd}
theorem m_lacks (h : Qd T t l g σ τ) {a b : Nat} (ha : a < 5) (hb : b < 5) : M_X9_lacksOf τ (nI a) (nI b) = some (nI (lkN g a b (gW g))) := by
  obtain ⟨hW, hO, hP, hn⟩ := q_bd h
  unfold M_X9_lacksOf
  obtain ⟨x, h1, h2⟩ := ow_for (body := fun s : Int32 × Int32 => M_X9_lacksOf_L5 τ (nI a) (nI b) s.1 s.2) (Q := fun x => x = nI (lkN g a b (gW g))) (fun i s => s = (nI (lkN g a b i), nI i)) (gW g) (FU_big (by omega)) (fun i s hi hs => by
    subst hs
    show ow (M_X9_lacksOf_L5 τ (nI a) (nI b) (nI (lkN g a b i)) (nI i)) _
    unfold M_X9_lacksOf_L5
    have e1 : lkN g a b (i + 1) = if gA g a i = 1 ∧ gA g b i ≠ 1 then lkN g a b i + 1 else lkN g a b i := rfl
    rw [chk_pos (by decide), show gI τ 26 (ix (0 : Int32)) = nI (gW g) from h.2.2.2.1.1.1, if_neg (fun z => by have := (nI_leI (by omega) (by omega)).mp z; omega), q_have h ha (by omega), bnd1_some, q_have h hb (by omega), bnd1_some, nI_1, nI_1]
    simp only [lt_eq]
    by_cases hA : gA g a i = 1
    · rw [if_pos hA, if_neg n10]
      by_cases hB : gA g b i = 1
      · rw [if_pos hB, if_pos (show (1 : Int32) ≠ 0 by decide)]
        refine ow_some.mpr ?_
        show _ = _
        rw [e1, if_neg (fun z => z.2 hB)]
      · rw [if_neg hB, if_neg (show ¬ (0 : Int32) ≠ 0 by decide)]
        refine ow_some.mpr ?_
        show _ = _
        rw [e1, if_pos ⟨hA, hB⟩]
    · rw [if_neg hA, if_pos rfl]
      refine ow_some.mpr ?_
      show _ = _
      rw [e1, if_neg (fun z => hA z.1)]) (fun s hs => by
    subst hs
    show ow (M_X9_lacksOf_L5 τ (nI a) (nI b) (nI (lkN g a b (gW g))) (nI (gW g))) _
    unfold M_X9_lacksOf_L5
    rw [chk_pos (by decide), show gI τ 26 (ix (0 : Int32)) = nI (gW g) from h.2.2.2.1.1.1, if_pos ((nI_leI (by omega) (by omega)).mpr (Nat.le_refl _))]
    exact ow_some.mpr rfl) 0 ((0 : Int32), (0 : Int32)) (Nat.zero_le _) rfl
  rw [show iter (fun s : Int32 × Int32 => M_X9_lacksOf_L5 τ (nI a) (nI b) s.1 s.2) FU ((0 : Int32), (0 : Int32)) = some x from h1, bnd1_some]
  exact congrArg some h2
theorem q_set (h : Qd T t l g σ τ) {c w : Nat} (hc : c < 5) (hw : w < 64) : (gL σ 29 (6 + c)).toBitVec.getLsbD w = decide (gA g c w = 1) := by
  obtain ⟨hW, hO, hP, hn⟩ := q_bd h
  have hA := h.2.2.2.2.1.2.2.2.2.2.1 c w
  rw [show (gL σ 29 (6 + c)).toBitVec.getLsbD w = decide (w < 60 ∧ gA g c w = 1) from (h.2.1.2.2.1 c hc).1 w hw]
  congr 1
  exact propext ⟨fun z => z.2, fun z => ⟨by have := (hA z).1; omega, z⟩⟩
theorem q_same (h : Qd T t l g σ τ) {a b : Nat} (ha : a < 5) (hb : b < 5) : gL σ 29 (6 + a) = gL σ 29 (6 + b) ↔ lkN g a b (gW g) = 0 ∧ lkN g b a (gW g) = 0 := by
  obtain ⟨hW, hO, hP, hn⟩ := q_bd h
  have hA := h.2.2.2.2.1.2.2.2.2.2.1
  rw [lkN_0, lkN_0]
  constructor
  · intro e
    have q : ∀ w, w < 64 → (decide (gA g a w = 1) = decide (gA g b w = 1)) := fun w hw => by rw [← q_set h ha hw, ← q_set h hb hw, e]
    refine ⟨fun w hw z => ?_, fun w hw z => ?_⟩
    · have := q w (by omega)
      simpa [z] using this
    · have := q w (by omega)
      simpa [z] using this
  · intro ⟨z1, z2⟩
    rw [← Int64.toBitVec_inj]
    apply BitVec.eq_of_getLsbD_eq
    intro w hw
    rw [q_set h ha hw, q_set h hb hw]
    congr 1
    exact propext ⟨fun z => z1 w (hA a w z).1 z, fun z => z2 w (hA b w z).1 z⟩
theorem q_alike (h : Qd T t l g σ τ) {a b : Nat} (ha : a < 5) (hb : b < 5) : ∃ r, (r = 0 ∨ r = 1) ∧ M_X1_areAlike σ (nI a) (nI b) = some r ∧ M_X9_areAlike τ (nI a) (nI b) = some r := by
  obtain ⟨hW, hO, hP, hn⟩ := q_bd h
  have hK : ∀ c, c < 5 → gK g c ≤ 60 := fun c hc => by have := h.2.2.2.2.1.2.2.1 c hc; omega
  have s := q_same h ha hb
  have e1 := lkN_le (g := g) (a := a) (b := b) (gW g)
  have e2 := lkN_le (g := g) (a := b) (b := a) (gW g)
  have ka := hK a ha
  have kb := hK b hb
  unfold M_X1_areAlike M_X9_areAlike
  rw [c_setOf ha, bnd1_some, c_setOf hb, bnd1_some, (q_known h ha).1, bnd1_some, (q_known h hb).1, bnd1_some, m_lacks h ha hb, bnd1_some, m_lacks h hb ha, bnd1_some, (q_known h ha).2, bnd1_some, (q_known h hb).2, bnd1_some]
  have z0 : ∀ {n : Nat}, n ≤ 60 → (nI n ≠ 0 ↔ n ≠ 0) := fun {n} hn => nI_ne (a := n) (b := 0) (by omega) (by decide)
  by_cases hs : gL σ 29 (6 + a) = gL σ 29 (6 + b)
  · obtain ⟨s1, s2⟩ := s.mp hs
    rw [if_neg (show ¬ lg_cmp (gL σ 29 (6 + a)) (gL σ 29 (6 + b)) ≠ 0 from fun z => z ((lg_cmp_eq _ _).mpr hs)), if_neg (fun z => (z0 (by omega)).mp z s1), if_neg (fun z => (z0 (by omega)).mp z s2)]
    by_cases hk : nI (gK g a) ≠ nI (gK g b)
    · rw [if_pos hk]
      exact ⟨0, Or.inl rfl, rfl, rfl⟩
    · rw [if_neg hk]
      exact ⟨1, Or.inr rfl, rfl, rfl⟩
  · rw [if_pos (show lg_cmp (gL σ 29 (6 + a)) (gL σ 29 (6 + b)) ≠ 0 from fun z => hs ((lg_cmp_eq _ _).mp z))]
    by_cases s1 : lkN g a b (gW g) = 0
    · have s2 : lkN g b a (gW g) ≠ 0 := fun z => hs (s.mpr ⟨s1, z⟩)
      rw [if_neg (fun z => (z0 (by omega)).mp z s1), if_pos ((z0 (by omega)).mpr s2)]
      exact ⟨0, Or.inl rfl, rfl, rfl⟩
    · rw [if_pos ((z0 (by omega)).mpr s1)]
      exact ⟨0, Or.inl rfl, rfl, rfl⟩
end QY
theorem st_25 : Sp_25 Rel := by
  intro σ τ h a b
  obtain ⟨T, t, l, g, τ1, hc, hK, hR, hQ, hT⟩ := ask_start h
  have hn := hQ.1.2.2.2.2.2.1.2.1
  unfold M_X8_alike M_X9_alike M_X8_areCopies
  rw [hc, bnd1_some]
  rcases q_isCopy hQ.1 a with ⟨c, hc5, rfl, e1, e2⟩ | ⟨e1, e2⟩
  · rw [e1, bnd1_some, if_neg n10, e2, bnd1_some, if_neg n10]
    rcases q_isCopy hQ.1 b with ⟨o, ho5, rfl, f1, f2⟩ | ⟨f1, f2⟩
    · obtain ⟨r, hr, r1, r2⟩ := q_alike hQ (show c < 5 by omega) (show o < 5 by omega)
      rw [f1, bnd1_some, if_neg n10, f2, bnd1_some, bnd1_some, if_pos (show (1 : Int32) ≠ 0 by decide), if_pos (show (1 : Int32) ≠ 0 by decide), r1, bnd1_some, r2, bnd1_some]
      rcases hr with rfl | rfl
      · rw [if_pos rfl, if_pos rfl]
        exact ⟨_, τ1, rfl, rfl, hR⟩
      · rw [if_neg n10, if_neg n10]
        exact ⟨_, τ1, rfl, rfl, hR⟩
    · rw [f1, bnd1_some, if_pos rfl, f2, bnd1_some, bnd1_some, if_neg (show ¬ (0 : Int32) ≠ 0 by decide), if_neg (show ¬ (0 : Int32) ≠ 0 by decide)]
      exact ⟨_, τ1, rfl, rfl, hR⟩
  · rw [e1, bnd1_some, if_pos rfl, bnd1_some, if_neg (show ¬ (0 : Int32) ≠ 0 by decide), e2, bnd1_some, if_pos rfl]
    exact ⟨_, τ1, rfl, rfl, hR⟩
