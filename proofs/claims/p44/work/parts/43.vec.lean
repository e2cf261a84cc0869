/-! what is asked of the state, with the model's row copied; sets; vectors -/
def Qd (T : Td) (t l : Nat) (g : Gs) (σ τ : Wd) : Prop := RText T t l σ τ ∧ CR (tN T) g (σ.2.1 29) ∧ CA g 28 σ ∧ MR g (τ.1 26) ∧ Inv (tN T) (tF T) g ∧ True
theorem Mid.qd {T : Td} {t l : Nat} {g0 g : Gs} {σ1 τ0 σ τ : Wd} (h : Mid T g0 σ1 τ0 g σ τ) (hT : RText T t l σ1 τ0) : Qd T t l g σ τ := ⟨RText_mid h hT, h.2.2.2.1, h.2.2.2.2.1, h.2.2.2.2.2.1, h.2.2.2.2.2.2.1, trivial⟩
theorem ask_start {σ τ : Wd} (h : Rel σ τ) : ∃ T t l g τ1, M_X9_copiesNow τ = some τ1 ∧ KM τ τ1 ∧ Rel σ τ1 ∧ Qd T t l g σ τ1 ∧ RText T t l σ τ := by
  obtain ⟨T, t, l, tp, un, nx, g, hs, sl, hl, h1, h2, h3, h4, h5, h6, h7⟩ := Rel_iff.mp h
  have c := m_copiesNow (τ := τ) (n := tS T) h3.2.2.2.1 h3.2.2.2.2.1 h3.2.2.2.2.2.2.2.1.2.2.1
  have k : KM τ (uI (rI τ 26 (va_cpy (τ.1 25) (τ.1 26) 0 0 770)) 0 43 (nI (tS T))) := KM.wO (by decide) (KM.wI rfl (by decide) KM.refl)
  refine ⟨T, t, l, g, _, c, k, Rel_KM k h, ⟨RText_eq rfl (fun _ _ _ => rfl) (k.2.2 18 (by decide)) (fun c q1 q2 => k.1 c (by unfold pM; simp; omega)) h3, h4.1, h4.2.1, ?_, h4.2.2.2, trivial⟩, h3⟩
  · refine MR_cong h4.2.2.2 (fun k hk => ?_) h4.2.2.1
    show (uI _ 0 43 _).1 26 k = _
    unfold uI rI
    simp only [Nat.reduceEqDiff, if_false, if_true]
    exact cpy_at hk
/-- one bit of a set -/
theorem sh_bit {x : Int64} {w : Nat} (hw : w < 60) : lg_cmp ((x >>> ((nI w).toInt64 &&& 63)) &&& 1) 0 = 0 ↔ x.toBitVec.getLsbD w = false := by
  rw [lg_cmp_eq, nI_l (by omega)]
  have e : (lN w &&& 63) = lN w := by
    have : ∀ w : Fin 60, (lN w.val &&& 63) = lN w.val := by decide
    exact this ⟨w, hw⟩
  rw [e, ← Int64.toBitVec_inj]
  have e2 : (x >>> lN w).toBitVec = x.toBitVec.sshiftRight w := by
    rw [Int64.toBitVec_shiftRight]
    have : ∀ w : Fin 60, (lN w.val).toBitVec.smod 64 = BitVec.ofNat 64 w.val := by decide
    rw [this ⟨w, hw⟩]
    rw [BitVec.sshiftRight_eq', BitVec.toNat_ofNat, Nat.mod_eq_of_lt (by omega)]
  rw [Int64.toBitVec_and, e2]
  have k0 : (x.toBitVec.sshiftRight w).getLsbD 0 = x.toBitVec.getLsbD w := by
    rw [BitVec.getLsbD_sshiftRight, if_pos (by omega)]
    simp
  constructor
  · intro h
    have q := congrArg (fun b => BitVec.getLsbD b 0) h
    simp only [BitVec.getLsbD_and, k0] at q
    rw [show (1 : Int64).toBitVec.getLsbD 0 = true from by decide, show (0 : Int64).toBitVec.getLsbD 0 = false from by decide, Bool.and_true] at q
    exact q
  · intro h
    apply BitVec.eq_of_getLsbD_eq
    intro i hi
    by_cases h0 : i = 0
    · subst h0
      rw [BitVec.getLsbD_and, k0, h, Bool.false_and]
      decide
    · have : (1 : Int64).toBitVec.getLsbD i = false := by
        rw [show (1 : Int64).toBitVec = 1#64 from rfl]
        simp [h0]
      rw [BitVec.getLsbD_and, this, Bool.and_false, show (0 : Int64).toBitVec = 0#64 from rfl]
      simp
section QD
variable {T : Td} {t l : Nat} {g : Gs} {σ τ : Wd}
theorem q_copies (h : Qd T t l g σ τ) : M_X1_copies σ = some (nI (tN T)) := c_copies h.2.1.1.1
theorem q_writes (h : Qd T t l g σ τ) : M_X1_writes σ = some (nI (gW g)) := c_writes h.2.1.1.2.2.1
theorem q_ordered (h : Qd T t l g σ τ) : M_X1_ordered σ = some (nI (gO g)) := c_ordered h.2.1.1.2.2.2.1
theorem q_has (h : Qd T t l g σ τ) {c w : Nat} (hc : c < 5) (hw : w < 60) : M_X1_hasIt σ (nI c) (nI w) = some (if gA g c w = 1 then 1 else 0) := by
  unfold M_X1_hasIt
  rw [c_setOf hc, bnd1_some]
  have q := (h.2.1.2.2.1 c hc).1 w (by omega)
  have e := sh_bit (x := gL σ 29 (6 + c)) hw
  rw [show (gL σ 29 (6 + c)).toBitVec.getLsbD w = decide (w < 60 ∧ gA g c w = 1) from q] at e
  by_cases ha : gA g c w = 1
  · rw [if_pos ha, if_neg (fun z => by have := e.mp z; simp [ha, hw] at this)]
  · rw [if_neg ha, if_pos (e.mpr (by simp [ha]))]
theorem q_have (h : Qd T t l g σ τ) {c w : Nat} (hc : c < 5) (hw : w < 60) : M_X9_doesHave τ (nI c) (nI w) = some (if gA g c w = 1 then 1 else 0) := by
  have q : gI τ 26 (470 + 60 * c + w) = nI (gA g c w) := h.2.2.2.1.2.2.2.2.2.2 c w hc hw
  have hA := h.2.2.2.2.1.2.2.2.2.1 c w
  unfold M_X9_doesHave
  simp (disch := omega) only [i_lit, pk_mul, nI_add, ib_nI, ix_nI, nI_leI, nI_ltI, nI_eq, ne_eq]
  rw [chk_pos (by omega), q]
  by_cases ha : gA g c w = 1
  · rw [ha, if_pos rfl]
    rfl
  · rw [show gA g c w = 0 by omega, if_pos (show ¬ nI 0 = nI 1 by decide)]
    rfl
end QD
/-- the vector: the highest stamp of a write of o's that c has, of the first k -/
def vecN (g : Gs) (c o : Nat) : Nat → Nat
  | 0 => 0
  | k + 1 => if gA g c k = 1 ∧ gN g k = o then max (vecN g c o k) (gS g k) else vecN g c o k
def clkN (g : Gs) (c : Nat) : Nat → Nat
  | 0 => 0
  | k + 1 => if gA g c k = 1 then max (clkN g c k) (gS g k) else clkN g c k
theorem vecN_le {g : Gs} {n m c o : Nat} (hI : Inv n m g) : ∀ k, k ≤ gW g → vecN g c o k ≤ 60 := by
  intro k
  induction k with
  | zero => intro _; exact Nat.zero_le _
  | succ k ih =>
    intro hk
    have q := hI.2.2.2.2.2.2.2.2.2.1 k (by omega)
    have hW := hI.1.1
    have := ih (by omega)
    show (if _ then _ else _) ≤ 60
    by_cases h : gA g c k = 1 ∧ gN g k = o
    · rw [if_pos h]; omega
    · rw [if_neg h]; exact this
theorem vecN_own {g : Gs} {n m c o w : Nat} (hI : Inv n m g) (hw : w < gW g) (ho : gN g w = o) : ∀ k, k ≤ w → vecN g c o k ≤ gS g w := by
  intro k
  induction k with
  | zero => intro _; exact Nat.zero_le _
  | succ k ih =>
    intro hk
    have := ih (by omega)
    show (if _ then _ else _) ≤ gS g w
    by_cases h : gA g c k = 1 ∧ gN g k = o
    · rw [if_pos h]
      have := hI.2.2.2.2.2.2.2.2.2.2.1 k w (by omega) hw (by rw [h.2, ho])
      omega
    · rw [if_neg h]; exact this
section QV
variable {T : Td} {t l : Nat} {g : Gs} {σ τ : Wd}
theorem q_arr (h : Qd T t l g σ τ) {w : Nat} (hw : w < gW g) : gI σ 30 w = nI (gF g w) ∧ gI σ 31 w = iX g w ∧ gI σ 32 w = nI (gN g w) ∧ gI σ 33 w = nI (gS g w) := h.2.2.1.1 w hw
theorem q_of (h : Qd T t l g σ τ) {w : Nat} (hw : w < gW g) : M_X9_ofWrite τ (nI w) 0 = some (nI (gF g w)) ∧ M_X9_ofWrite τ (nI w) 1 = some (iX g w) ∧ M_X9_ofWrite τ (nI w) 2 = some (nI (gN g w)) ∧ M_X9_ofWrite τ (nI w) 3 = some (nI (gS g w)) := by
  have hW := h.2.2.2.2.1.1.1
  have q := h.2.2.2.1.2.2.2.2.1 w hw
  refine ⟨(m_ofWrite (k := 0) (by omega) (by decide)).trans (congrArg some q.1), (m_ofWrite (k := 1) (by omega) (by decide)).trans (congrArg some q.2.1), (m_ofWrite (k := 2) (by omega) (by decide)).trans (congrArg some q.2.2.1), (m_ofWrite (k := 3) (by omega) (by decide)).trans (congrArg some q.2.2.2.1)⟩
theorem q_bd (h : Qd T t l g σ τ) : gW g ≤ 60 ∧ gO g ≤ gW g ∧ gP g < tN T ∧ tN T ≤ 5 := ⟨h.2.2.2.2.1.1.1, h.2.2.2.2.1.1.2.1, h.2.2.2.2.1.1.2.2.1, h.2.2.2.2.1.1.2.2.2.2.1⟩
theorem c_vec (h : Qd T t l g σ τ) {c o : Nat} (hc : c < 5) (ho : o < 5) : M_X1_vectorOf σ (nI c) (nI o) = some (nI (vecN g c o (gW g))) := by
  obtain ⟨hW, hO, hP, hn⟩ := q_bd h
  have hI := h.2.2.2.2.1
  unfold M_X1_vectorOf
  rw [q_writes h, bnd1_some]
  simp only [lt_eq]
  obtain ⟨x, h1, h2⟩ := ow_iter (body := fun s : Int32 => M_X1_vectorOf_L7 σ (nI c) (nI o) s) (Q := fun x => sx (un0 (some (0 : Int32))) (fun q => some q) x = some (nI (vecN g c o (gW g)))) (fun k s => k ≤ gW g ∧ s = nI k - 1 ∧ vecN g c o (gW g) = vecN g c o k) (fun k s ⟨hk, hs, hv⟩ => by
    subst hs
    show ow (M_X1_vectorOf_L7 σ (nI c) (nI o) (nI k - 1)) _
    unfold M_X1_vectorOf_L7
    by_cases h0 : k = 0
    · subst h0
      rw [if_pos (by decide)]
      refine ow_some.mpr ?_
      rw [hv]
      rfl
    · obtain ⟨w, rfl⟩ : ∃ w, k = w + 1 := ⟨k - 1, by omega⟩
      rw [nI_pred1 (by omega), Nat.add_sub_cancel, if_neg (nI_n0 (by omega)), chk_pos ((ib_nI (by omega)).mpr (by omega)), ix_nI (by omega), (q_arr h (w := w) (by omega)).2.2.1, (q_arr h (w := w) (by omega)).2.2.2, q_has h hc (by omega), bnd1_some]
      have hN := hI.2.2.2.2.2.2.2.2.2.1 w (by omega)
      have e1 : vecN g c o (w + 1) = if gA g c w = 1 ∧ gN g w = o then max (vecN g c o w) (gS g w) else vecN g c o w := rfl
      have hm1 : nI w + -1 = nI w - 1 := by rw [Int32.sub_eq_add_neg]
      rw [hm1]
      simp only [lt_eq]
      by_cases hN2 : gN g w = o
      · rw [if_neg (show ¬ nI (gN g w) ≠ nI o from fun z => z (by rw [hN2]))]
        by_cases hA : gA g c w = 1
        · rw [if_pos hA, if_neg n10, chk_pos ((ib_nI (by omega)).mpr (by omega))]
          refine ow_some.mpr ?_
          have := vecN_own (c := c) hI (by omega) hN2 w (Nat.le_refl _)
          rw [hv, e1, if_pos ⟨hA, hN2⟩, Nat.max_eq_right this]
          rfl
        · rw [if_neg hA, if_pos rfl]
          exact ow_some.mpr ⟨w, by omega, by omega, rfl, by rw [hv, e1, if_neg (fun z => hA z.1)]⟩
      · rw [if_pos (show nI (gN g w) ≠ nI o from fun z => hN2 ((nI_eq (by omega) (by omega)).mp z))]
        exact ow_some.mpr ⟨w, by omega, by omega, rfl, by rw [hv, e1, if_neg (fun z => hN2 z.2)]⟩) FU (gW g) (nI (gW g) - 1) (FU_big (by omega)) ⟨Nat.le_refl _, rfl, rfl⟩
  rw [show iter (fun s : Int32 => M_X1_vectorOf_L7 σ (nI c) (nI o) s) FU (nI (gW g) - 1) = some x from h1, bnd1_some]
  exact h2
theorem m_vec (h : Qd T t l g σ τ) {c o : Nat} (hc : c < 5) (ho : o < 5) : M_X9_vectorOf τ (nI c) (nI o) = some (nI (vecN g c o (gW g))) := by
  obtain ⟨hW, hO, hP, hn⟩ := q_bd h
  have hI := h.2.2.2.2.1
  unfold M_X9_vectorOf
  obtain ⟨x, h1, h2⟩ := ow_for (body := fun s : Int32 × Int32 => M_X9_vectorOf_L5 τ (nI c) (nI o) s.1 s.2) (Q := fun x => x = nI (vecN g c o (gW g))) (fun i s => s = (nI (vecN g c o i), nI i)) (gW g) (FU_big (by omega)) (fun i s hi hs => by
    subst hs
    show ow (M_X9_vectorOf_L5 τ (nI c) (nI o) (nI (vecN g c o i)) (nI i)) _
    unfold M_X9_vectorOf_L5
    have hN := hI.2.2.2.2.2.2.2.2.2.1 i hi
    have hv := vecN_le (c := c) (o := o) hI i (by omega)
    have e1 : vecN g c o (i + 1) = if gA g c i = 1 ∧ gN g i = o then max (vecN g c o i) (gS g i) else vecN g c o i := rfl
    rw [chk_pos (by decide), show gI τ 26 (ix (0 : Int32)) = nI (gW g) from h.2.2.2.1.1.1, if_neg (fun z => by have := (nI_leI (by omega) (by omega)).mp z; omega), q_have h hc (by omega), bnd1_some, (q_of h hi).2.2.1, bnd1_some, (q_of h hi).2.2.2, bnd1_some, bnd1_some, nI_1]
    simp only [lt_eq]
    by_cases hA : gA g c i = 1
    · rw [if_pos hA, if_neg n10]
      by_cases hN2 : gN g i = o
      · rw [if_neg (show ¬ nI (gN g i) ≠ nI o from fun z => z (by rw [hN2]))]
        by_cases hl : gS g i ≤ vecN g c o i
        · rw [if_pos ((nI_leI (by omega) (by omega)).mpr hl)]
          refine ow_some.mpr ?_
          show _ = _
          rw [e1, if_pos ⟨hA, hN2⟩, Nat.max_eq_left hl]
        · rw [if_neg (fun z => hl ((nI_leI (by omega) (by omega)).mp z))]
          refine ow_some.mpr ?_
          show _ = _
          rw [e1, if_pos ⟨hA, hN2⟩, Nat.max_eq_right (by omega)]
      · rw [if_pos (show nI (gN g i) ≠ nI o from fun z => hN2 ((nI_eq (by omega) (by omega)).mp z))]
        refine ow_some.mpr ?_
        show _ = _
        rw [e1, if_neg (fun z => hN2 z.2)]
    · rw [if_neg hA, if_pos rfl]
      refine ow_some.mpr ?_
      show _ = _
      rw [e1, if_neg (fun z => hA z.1)]) (fun s hs => by
    subst hs
    show ow (M_X9_vectorOf_L5 τ (nI c) (nI o) (nI (vecN g c o (gW g))) (nI (gW g))) _
    unfold M_X9_vectorOf_L5
    rw [chk_pos (by decide), show gI τ 26 (ix (0 : Int32)) = nI (gW g) from h.2.2.2.1.1.1, if_pos ((nI_leI (by omega) (by omega)).mpr (Nat.le_refl _))]
    exact ow_some.mpr rfl) 0 ((0 : Int32), (0 : Int32)) (Nat.zero_le _) rfl
  rw [show iter (fun s : Int32 × Int32 => M_X9_vectorOf_L5 τ (nI c) (nI o) s.1 s.2) FU ((0 : Int32), (0 : Int32)) = some x from h1, bnd1_some]
  exact congrArg some h2
end QV
/-- who asks for a copy: in bounds on both sides, or out on both -/
theorem q_isCopy {T : Td} {t l : Nat} {σ τ : Wd} (hT : RText T t l σ τ) (v : Int32) : (∃ c, c < tN T ∧ v = nI c ∧ M_X8_isCopy σ v = some 1 ∧ M_X9_isCopy τ v = some 1) ∨ (M_X8_isCopy σ v = some 0 ∧ M_X9_isCopy τ v = some 0) := by
  obtain ⟨ht, h4, hl, h18, hTI, hTC, hTM⟩ := gR_mid hT
  have hn := hTI.2.1
  rcases bd_cases v (n := tN T) (by omega) with ⟨c, hc, rfl⟩ | ha
  · exact Or.inl ⟨c, hc, rfl, c_isCopy_t ht h4 hTC.1.1 (by omega) hc, m_isCopy_t hl h18 hTM.1.1 (by omega) hc⟩
  · exact Or.inr ⟨c_isCopy_f ht h4 hTC.1.1 ha, m_isCopy_f hl h18 hTM.1.1 (by omega) ha⟩
theorem st_18 : Sp_18 Rel := by
  intro σ τ h a b
  obtain ⟨T, t, l, g, τ1, hc, hK, hR, hQ, hT⟩ := ask_start h
  have hn := hQ.1.2.2.2.2.2.1.2.1
  unfold M_X8_vector M_X9_vector
  rw [hc, bnd1_some]
  rcases q_isCopy hQ.1 a with ⟨c, hc5, rfl, e1, e2⟩ | ⟨e1, e2⟩
  · rw [e1, bnd1_some, if_neg n10, e2, bnd1_some, if_neg n10]
    rcases q_isCopy hQ.1 b with ⟨o, ho5, rfl, f1, f2⟩ | ⟨f1, f2⟩
    · rw [f1, bnd1_some, if_neg n10, f2, bnd1_some, if_neg n10, c_vec hQ (by omega) (by omega), m_vec hQ (by omega) (by omega)]
      exact ⟨_, τ1, rfl, rfl, hR⟩
    · rw [f1, bnd1_some, if_pos rfl, f2, bnd1_some, if_pos rfl]
      exact ⟨_, τ1, rfl, rfl, hR⟩
  · rw [e1, bnd1_some, if_pos rfl, e2, bnd1_some, if_pos rfl]
    exact ⟨_, τ1, rfl, rfl, hR⟩
