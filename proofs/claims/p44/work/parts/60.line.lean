/-! lines; log, fork, ahead -/
theorem n01 : (1 : Int32) ≠ 0 := by decide
theorem z00 : ¬ (0 : Int32) ≠ 0 := by decide
theorem i0le {n : Nat} (h : n < 2 ^ 31) : (0 : Int32) ≤ nI n := nI_pos' h
theorem i0lt {b : Int32} (h : 0 ≤ b) : ¬ b < 0 := fun z => by
  rw [Int32.lt_iff_toInt_lt] at z
  rw [Int32.le_iff_toInt_le] at h
  omega
theorem i0nle {b : Int32} (h : ¬ 0 ≤ b) : b < 0 := by
  rw [Int32.le_iff_toInt_le] at h
  rw [Int32.lt_iff_toInt_lt]
  omega
def WL (σ : Wd) (q : Nat) (F : Nat → Int32) (n : Nat) : Wd := uI (rI σ (q + 3) F) q 2 (nI n)
theorem WL_n {σ : Wd} {q n : Nat} {F : Nat → Int32} : gI (WL σ q F n) q 2 = nI n := by unfold WL; rw [gI_uI, if_pos ⟨rfl, rfl⟩]
theorem WL_f {σ : Wd} {q n i : Nat} {F : Nat → Int32} : gI (WL σ q F n) (q + 3) i = F i := by unfold WL; rw [gI_uI, if_neg (by omega), gI_rI, if_pos rfl]
theorem WL_o {σ : Wd} {q n c k : Nat} {F : Nat → Int32} (h : c ≠ q ∨ k ≠ 2) (h3 : c ≠ q + 3) : gI (WL σ q F n) c k = gI σ c k := by unfold WL; rw [gI_uI, if_neg (by omega), gI_rI, if_neg h3]
theorem nC {q : Nat} (h : 108 ≤ q) : ¬ pC q := fun z => by have := z.1; omega
theorem WL_KC {σ σ' : Wd} {q n : Nat} {F : Nat → Int32} (hq : 108 ≤ q) (h : KC σ σ') : KC σ (WL σ' q F n) := KC.uI (nC hq) (KC.wI (nC (by omega)) h)
theorem Qd.uI {T : Td} {t l : Nat} {g : Gs} {σ τ : Wd} {a k : Nat} {v : Int32} (h : Qd T t l g σ τ) (ha : 34 < a) : Qd T t l g (uI σ a k v) τ := h.rI ha
theorem Qd.WL {T : Td} {t l : Nat} {g : Gs} {σ τ : Wd} {q n : Nat} {F : Nat → Int32} (h : Qd T t l g σ τ) (hq : 108 ≤ q) : Qd T t l g (WL σ q F n) τ := (h.rI (by omega)).uI (by omega)
def W28 (τ : Wd) (F : Nat → Int32) (n : Nat) : Wd := rI (uI τ 0 47 (nI n)) 28 F
theorem W28_47 {τ : Wd} {F : Nat → Int32} {n : Nat} : gI (W28 τ F n) 0 47 = nI n := by unfold W28; rw [gI_rI, if_neg (by decide), gI_uI, if_pos ⟨rfl, rfl⟩]
theorem W28_28 {τ : Wd} {F : Nat → Int32} {n i : Nat} : gI (W28 τ F n) 28 i = F i := by unfold W28; rw [gI_rI, if_pos rfl]
theorem W28_o {τ : Wd} {F : Nat → Int32} {n c k : Nat} (h0 : c ≠ 0 ∨ k ≠ 47) (h1 : c ≠ 28) : gI (W28 τ F n) c k = gI τ c k := by unfold W28; rw [gI_rI, if_neg h1, gI_uI, if_neg (by omega)]
theorem KQ.W28 {τ τ' : Wd} {F : Nat → Int32} {n : Nat} (h : KQ τ τ') : KQ τ (W28 τ' F n) := KQ.wI rfl (by decide) (by decide) (KQ.wO (by decide) (by decide) h)
theorem m_keep {τ : Wd} {n : Nat} (h : gI τ 0 45 = nI n) (hn : n ≤ 60) : M_X9_keepsLog τ = some (W28 τ (va_cpy (τ.1 27) (τ.1 28) 0 0 n) n) := by
  have q := cp_loop (σ0 := uI τ 0 47 (nI n)) (a := 27) (b := 28) (sp := 0) (dp := 0) (N := n) (body := fun s : Int32 × Wd => M_X9_keepsLog_L10 s.1 s.2) (Or.inl (by decide)) (by omega) (fun i s hi hc _ => by
    show M_X9_keepsLog_L10 (nI i) s = _
    have e : gI s 0 45 = nI n := by
      have : gI s 0 45 = gI (uI τ 0 47 (nI n)) 0 45 := congrFun (hc 0 (by decide)) 45
      rw [this, gI_uI, if_neg (by decide), h]
    unfold M_X9_keepsLog_L10
    rw [e]
    by_cases h0 : n ≤ i
    · rw [if_pos ((nI_leI (by omega) (by omega)).mpr h0), if_pos h0]
    · rw [if_neg (fun z => h0 ((nI_leI (by omega) (by omega)).mp z)), if_neg h0, chk_pos ((ib_nI (by omega)).mpr (by omega)), chk_pos ((ib_nI (by omega)).mpr (by omega)), ix_nI (by omega), nI_1, Nat.zero_add]
      rfl)
  unfold M_X9_keepsLog
  simp only [lt_eq]
  rw [h, show ((0 : Int32), uI τ 0 47 (nI n)) = (nI 0, uI τ 0 47 (nI n)) from rfl, q]
  rfl
theorem m_alike {τ : Wd} {f h : Nat → Nat} {n m : Nat} (h45 : gI τ 0 45 = nI n) (h47 : gI τ 0 47 = nI m) (hn : n ≤ 60) (hm : m ≤ 60) (hf : ∀ i, i < n → gI τ 27 i = nI (f i) ∧ f i < 60) (hh : ∀ i, i < m → gI τ 28 i = nI (h i) ∧ h i < 60) : ∃ r, AlS f h n m r ∧ M_X9_alikeLogs τ = some (nI r) := by
  obtain ⟨r, h1, h2⟩ := al_loop (body := fun s : Int32 => M_X9_alikeLogs_L2 τ s) (f := f) (h := h) (n := n) (m := m) (by omega) (fun i hi hi2 => by
    show M_X9_alikeLogs_L2 τ (nI i) = _
    unfold M_X9_alikeLogs_L2
    rw [h45, h47]
    by_cases h0 : n ≤ i
    · rw [if_pos ((nI_leI (by omega) (by omega)).mpr h0), if_pos (Or.inl h0)]
    · rw [if_neg (fun z => h0 ((nI_leI (by omega) (by omega)).mp z))]
      by_cases h1 : m ≤ i
      · rw [if_pos ((nI_leI (by omega) (by omega)).mpr h1), if_pos (Or.inr h1)]
      · have hf1 := hf i (by omega)
        have hh1 := hh i (by omega)
        rw [if_neg (fun z => h1 ((nI_leI (by omega) (by omega)).mp z)), if_neg (show ¬ (n ≤ i ∨ m ≤ i) by omega), chk_pos ((ib_nI (by omega)).mpr (by omega)), chk_pos ((ib_nI (by omega)).mpr (by omega)), ix_nI (by omega), hf1.1, hh1.1, nI_1]
        by_cases h2 : f i = h i
        · rw [if_neg (show ¬ nI (f i) ≠ nI (h i) from fun z => z (by rw [h2])), if_pos h2]
          rfl
        · rw [if_pos (show nI (f i) ≠ nI (h i) from fun z => h2 ((nI_eq (by omega) (by omega)).mp z)), if_neg h2])
  refine ⟨r, h1, ?_⟩
  unfold M_X9_alikeLogs
  rw [h2]
  rfl
theorem c_alike {σ : Wd} {a b : Nat} {f h : Nat → Nat} {n m : Nat} (hn : n ≤ 60) (hm : m ≤ 60) (hf : ∀ i, i < n → gI σ a i = nI (f i) ∧ f i < 60) (hh : ∀ i, i < m → gI σ b i = nI (h i) ∧ h i < 60) : ∃ r, AlS f h n m r ∧ M_X1_alikeFromStart σ a 60 (nI n) b 60 (nI m) = some (nI r) := by
  obtain ⟨r, h1, h2⟩ := al_loop (body := fun s : Int32 => M_X1_alikeFromStart_L3 a 60 b 60 σ (nI n) (nI m) s) (f := f) (h := h) (n := n) (m := m) (by omega) (fun i hi hi2 => by
    show M_X1_alikeFromStart_L3 a 60 b 60 σ (nI n) (nI m) (nI i) = _
    unfold M_X1_alikeFromStart_L3
    by_cases h0 : n ≤ i
    · rw [if_pos ((nI_leI (by omega) (by omega)).mpr h0), if_pos (Or.inl h0)]
    · rw [if_neg (fun z => h0 ((nI_leI (by omega) (by omega)).mp z))]
      by_cases h1 : m ≤ i
      · rw [if_pos ((nI_leI (by omega) (by omega)).mpr h1), if_pos (Or.inr h1)]
      · have hf1 := hf i (by omega)
        have hh1 := hh i (by omega)
        rw [if_neg (fun z => h1 ((nI_leI (by omega) (by omega)).mp z)), if_neg (show ¬ (n ≤ i ∨ m ≤ i) by omega), chk_pos ((ib_nI (by omega)).mpr (by omega)), chk_pos ((ib_nI (by omega)).mpr (by omega)), ix_nI (by omega), hf1.1, hh1.1, nI_1]
        by_cases h2 : f i = h i
        · rw [if_neg (show ¬ nI (f i) ≠ nI (h i) from fun z => z (by rw [h2])), if_pos h2]
          rfl
        · rw [if_pos (show nI (f i) ≠ nI (h i) from fun z => h2 ((nI_eq (by omega) (by omega)).mp z)), if_neg h2])
  refine ⟨r, h1, ?_⟩
  unfold M_X1_alikeFromStart
  rw [h2]
  rfl
theorem c_place {σ : Wd} {q n w : Nat} {f : Nat → Nat} (h2 : gI σ q 2 = nI n) (hn : n ≤ 60) (hw : w < 60) (hf : ∀ i, i < n → gI σ (q + 3) i = nI (f i) ∧ f i < 60) : (∃ i, i < n ∧ f i = w ∧ M_X4_placeOf σ q (nI w) = some (nI i)) ∨ ((∀ i, i < n → f i ≠ w) ∧ M_X4_placeOf σ q (nI w) = some (-1)) := by
  exact pl_loop (body := fun s : Int32 => M_X4_placeOf_L2 q σ (nI w) s) (f := f) (n := n) (w := w) (by omega) (fun i hi => by
    show M_X4_placeOf_L2 q σ (nI w) (nI i) = _
    unfold M_X4_placeOf_L2
    rw [h2]
    by_cases h0 : n ≤ i
    · rw [if_pos ((nI_leI (by omega) (by omega)).mpr h0), if_pos h0]
    · have hf1 := hf i (by omega)
      rw [if_neg (fun z => h0 ((nI_leI (by omega) (by omega)).mp z)), if_neg h0, chk_pos ((ib_nI (by omega)).mpr (by omega)), ix_nI (by omega), hf1.1, nI_1]
      by_cases h3 : f i = w
      · rw [if_neg (show ¬ nI (f i) ≠ nI w from fun z => z (by rw [h3])), if_pos h3]
      · rw [if_pos (show nI (f i) ≠ nI w from fun z => h3 ((nI_eq (by omega) (by omega)).mp z)), if_neg h3]
        rfl)
theorem m_where {τ : Wd} {n w : Nat} {f : Nat → Nat} (h2 : gI τ 0 45 = nI n) (hn : n ≤ 60) (hw : w < 60) (hf : ∀ i, i < n → gI τ 27 i = nI (f i) ∧ f i < 60) : (∃ i, i < n ∧ f i = w ∧ M_X9_whereOf τ (nI w) = some (nI i)) ∨ ((∀ i, i < n → f i ≠ w) ∧ M_X9_whereOf τ (nI w) = some (-1)) := by
  exact pl_loop (body := fun s : Int32 => M_X9_whereOf_L2 τ (nI w) s) (f := f) (n := n) (w := w) (by omega) (fun i hi => by
    show M_X9_whereOf_L2 τ (nI w) (nI i) = _
    unfold M_X9_whereOf_L2
    rw [h2]
    by_cases h0 : n ≤ i
    · rw [if_pos ((nI_leI (by omega) (by omega)).mpr h0), if_pos h0]
    · have hf1 := hf i (by omega)
      rw [if_neg (fun z => h0 ((nI_leI (by omega) (by omega)).mp z)), if_neg h0, chk_pos ((ib_nI (by omega)).mpr (by omega)), ix_nI (by omega), hf1.1, nI_1]
      by_cases h3 : f i = w
      · rw [if_neg (show ¬ nI (f i) ≠ nI w from fun z => z (by rw [h3])), if_pos h3]
      · rw [if_pos (show nI (f i) ≠ nI w from fun z => h3 ((nI_eq (by omega) (by omega)).mp z)), if_neg h3]
        rfl)
/-- what a copy's log is -/
theorem lg_facts {n m c : Nat} {g : Gs} (hI : Inv n m g) (hc : c < 5) : (∀ i, i < lgn g (hsP g c) (gK g c) → lgf g (hsP g c) (gK g c) i < gW g) ∧ (∀ i j, i < j → j < lgn g (hsP g c) (gK g c) → lgf g (hsP g c) (gK g c) i ≠ lgf g (hsP g c) (gK g c) j) ∧ lgn g (hsP g c) (gK g c) ≤ gW g ∧ (∀ i, i < lgn g (hsP g c) (gK g c) → gA g c (lgf g (hsP g c) (gK g c) i) = 1) ∧ (∀ w, w < gW g → gA g c w = 1 → ∃ i, i < lgn g (hsP g c) (gK g c) ∧ lgf g (hsP g c) (gK g c) i = w) := by
  have hk : gK g c ≤ gO g := hI.2.2.1 c hc
  have h := lg_inv (R := lgR g (hsP g c) (gK g c)) (g := g) (k := gK g c) (gW g)
  have a := lg_all (P := hsP g c) hI hk (Nat.le_refl _) h
  have b := lg_mem (P := hsP g c) hI hk (fun i hi => by
    by_cases hcn : c < n
    · simpa using hI.2.2.2.2.2.2.1 c i hcn hi
    · have := hI.2.2.2.2.2.2.2.2.2.2.2.2.2 c (by omega)
      omega) h
  exact ⟨a.1, a.2.1, a.2.2, fun i hi => of_decide_eq_true (b.1 i hi), fun w hw hA => b.2 w hw (decide_eq_true hA)⟩
theorem lg_u {n m c i j : Nat} {g : Gs} (hI : Inv n m g) (hc : c < 5) (hi : i < lgn g (hsP g c) (gK g c)) (hj : j < lgn g (hsP g c) (gK g c)) (e : lgf g (hsP g c) (gK g c) i = lgf g (hsP g c) (gK g c) j) : i = j := by
  have d := (lg_facts hI hc).2.1
  rcases Nat.lt_trichotomy i j with q | q | q
  · exact absurd e (d i j q hj)
  · exact q
  · exact absurd e.symm (d j i q hi)
theorem q_bits {T : Td} {t l : Nat} {g : Gs} {σ τ : Wd} (h : Qd T t l g σ τ) {c : Nat} (hc : c < 5) : ∀ w, w < 60 → (gL σ 29 (6 + c)).toBitVec.getLsbD w = hsP g c w := fun w hw => q_set h hc (by omega)
theorem c_line {T : Td} {t l : Nat} {g : Gs} {σ τ : Wd} (h : Qd T t l g σ τ) {q c : Nat} (hq : 108 ≤ q) (hc : c < 5) : ∃ F, M_X4_line σ q (nI c) = some (WL σ q F (lgn g (hsP g c) (gK g c))) ∧ ∀ i, i < lgn g (hsP g c) (gK g c) → F i = nI (lgf g (hsP g c) (gK g c) i) := by
  obtain ⟨F, h1, h2⟩ := c_lay (a := q + 3) (P := hsP g c) h (by omega) (h.2.2.2.2.1.2.2.1 c hc) (q_bits h hc)
  refine ⟨F, ?_, h2⟩
  unfold M_X4_line
  rw [c_setOf hc, bnd1_some, (q_known h hc).1, bnd1_some, h1]
  rfl
theorem are_t {σ : Wd} {a b : Int32} (e1 : M_X8_isCopy σ a = some 1) (e2 : M_X8_isCopy σ b = some 1) : M_X8_areCopies σ a b = some 1 := by
  unfold M_X8_areCopies
  rw [e1, bnd1_some, if_neg n10, e2, bnd1_some, if_neg n10]
theorem are_f {σ : Wd} {a b : Int32} (e1 : M_X8_isCopy σ a = some 0) : M_X8_areCopies σ a b = some 0 := by
  unfold M_X8_areCopies
  rw [e1, bnd1_some, if_pos rfl]
theorem are_g {σ : Wd} {a b : Int32} (e1 : M_X8_isCopy σ a = some 1) (e2 : M_X8_isCopy σ b = some 0) : M_X8_areCopies σ a b = some 0 := by
  unfold M_X8_areCopies
  rw [e1, bnd1_some, if_neg n10, e2, bnd1_some, if_pos rfl]
/-- as ask_start, with the model's own row too -/
theorem ask_start2 {σ τ : Wd} (h : Rel σ τ) : ∃ T t l g τ1, M_X9_copiesNow τ = some τ1 ∧ KM τ τ1 ∧ Rel σ τ1 ∧ Qd T t l g σ τ1 ∧ RText T t l σ τ ∧ MR g (τ.1 25) ∧ gI τ1 0 43 = nI (tS T) := by
  obtain ⟨T, t, l, tp, un, nx, g, hs, sl, hl, h1, h2, h3, h4, h5, h6, h7⟩ := Rel_iff.mp h
  have c := m_copiesNow (τ := τ) (n := tS T) h3.2.2.2.1 h3.2.2.2.2.1 h3.2.2.2.2.2.2.2.1.2.2.1
  have k : KM τ (uI (rI τ 26 (va_cpy (τ.1 25) (τ.1 26) 0 0 770)) 0 43 (nI (tS T))) := KM.wO (by decide) (KM.wI rfl (by decide) KM.refl)
  refine ⟨T, t, l, g, _, c, k, Rel_KM k h, ⟨RText_eq rfl (fun _ _ _ => rfl) (k.2.2 18 (by decide)) (fun c q1 q2 => k.1 c (by unfold pM; simp; omega)) h3, h4.1, h4.2.1, ?_, h4.2.2.2, trivial⟩, h3, h4.2.2.1, ?_⟩
  · refine MR_cong h4.2.2.2 (fun k hk => ?_) h4.2.2.1
    show (uI _ 0 43 _).1 26 k = _
    unfold uI rI
    simp only [Nat.reduceEqDiff, if_false, if_true]
    exact cpy_at hk
  · simp only [gI_uI, gI_rI, gI_uL, gI_rL, gI_uR, gL_uL, gL_rL, gL_uI, gL_rI, gL_uR, gR_uI, gR_rI, gR_uL, gR_rL, gR_uR]; simp
theorem q_isWrite2 {T : Td} {t l : Nat} {g : Gs} {σ τ τ1 : Wd} (h : Qd T t l g σ τ1) (hM : MR g (τ.1 25)) (v : Int32) : (∃ w, w < gW g ∧ v = nI w ∧ M_X8_isWrite σ v = some 1 ∧ M_X9_isWrite τ v = some 1) ∨ (M_X8_isWrite σ v = some 0 ∧ M_X9_isWrite τ v = some 0) := by
  obtain ⟨hW, hO, hP, hn⟩ := q_bd h
  rcases bd_cases v (n := gW g) (by omega) with ⟨w, hw, rfl⟩ | ha
  · exact Or.inl ⟨w, hw, rfl, c_isWrite_t h.2.1.1.2.2.1 (by omega) hw, m_isWrite_t hM.1.1 (by omega) hw⟩
  · exact Or.inr ⟨c_isWrite_f h.2.1.1.2.2.1 ha, m_isWrite_f hM.1.1 (by omega) ha⟩
theorem st_13 : Sp_13 Rel := by
  intro σ τ h a b
  obtain ⟨T, t, l, g, τ1, hc, hK, hR, hQ, hT⟩ := ask_start h
  obtain ⟨hW, hO, hP, hn⟩ := q_bd hQ
  unfold M_X8_log M_X9_log
  rcases q_isCopy hT a with ⟨c, hc5, rfl, e1, e2⟩ | ⟨e1, e2⟩
  · obtain ⟨F, p1, p2⟩ := c_line (q := 108) (c := c) hQ (by decide) (by omega)
    obtain ⟨G, r1, r2⟩ := m_log (c := c) hQ (by omega)
    have lf := lg_facts hQ.2.2.2.2.1 (show c < 5 by omega)
    have hN := lf.2.2.1
    have hR' : Rel σ (W27 τ1 G (lgn g (hsP g c) (gK g c))) := Rel_KM (KQ.refl.W27).1 hR
    have hR2 : Rel (WL σ 108 F (lgn g (hsP g c) (gK g c))) (W27 τ1 G (lgn g (hsP g c) (gK g c))) := Rel_KC (WL_KC (by decide) KC.refl) hR'
    rw [e1, bnd1_some, if_neg n10, e2, bnd1_some, if_pos n01, hc, bnd1_some, r1, bnd1_some, W27_45]
    rcases bd_cases b (n := lgn g (hsP g c) (gK g c)) (by omega) with ⟨i, hi, rfl⟩ | hb
    · rw [if_pos (i0le (by omega)), p1, bnd1_some, WL_n, if_neg (fun z => by have := (nI_leI (by omega) (by omega)).mp z; omega), chk_pos ((ib_nI (by omega)).mpr (by omega)), ix_nI (by omega), WL_f, p2 i hi, m_in_t hi (by omega), bnd1_some, if_neg n10, chk_pos ((ib_nI (by omega)).mpr (by omega)), W27_27, r2 i hi]
      exact ⟨_, _, _, rfl, rfl, hR2⟩
    · rw [m_in_f hb (by omega), bnd1_some, if_pos rfl]
      by_cases h0 : 0 ≤ b
      · rw [if_pos h0, p1, bnd1_some, WL_n, if_pos (nI_lt0 hb (i0lt h0))]
        exact ⟨_, _, _, rfl, rfl, hR2⟩
      · rw [if_neg h0]
        exact ⟨_, _, _, rfl, rfl, hR'⟩
  · rw [e1, bnd1_some, if_pos rfl, e2, bnd1_some, if_neg z00]
    exact ⟨_, _, _, rfl, rfl, h⟩
theorem st_28 : Sp_28 Rel := by
  intro σ τ h a b
  obtain ⟨T, t, l, g, τ1, hc, hK, hR, hQ, hT⟩ := ask_start h
  obtain ⟨hW, hO, hP, hn⟩ := q_bd hQ
  unfold M_X8_fork M_X9_fork
  rcases q_isCopy hT a with ⟨c, hc5, rfl, e1, e2⟩ | ⟨e1, e2⟩
  · rw [e2, bnd1_some, if_neg n10]
    rcases q_isCopy hT b with ⟨d, hd5, rfl, f1, f2⟩ | ⟨f1, f2⟩
    · obtain ⟨F, p1, p2⟩ := c_line (q := 108) (c := c) hQ (by decide) (by omega)
      obtain ⟨F', p3, p4⟩ := c_line (q := 116) (c := d) (hQ.WL (q := 108) (F := F) (n := lgn g (hsP g c) (gK g c)) (by decide)) (by decide) (by omega)
      obtain ⟨G, r1, r2⟩ := m_log (c := c) hQ (by omega)
      have lf := lg_facts hQ.2.2.2.2.1 (show c < 5 by omega)
      have lf2 := lg_facts hQ.2.2.2.2.1 (show d < 5 by omega)
      have hN := lf.2.2.1
      have hN2 := lf2.2.2.1
      have k1 := m_keep (W27_45 (τ := τ1) (F := G) (n := lgn g (hsP g c) (gK g c))) (by omega)
      obtain ⟨G', r3, r4⟩ := m_log (c := d) (hQ.kq (KQ.refl.W27 (F := G) (n := lgn g (hsP g c) (gK g c))).W28) (by omega)
      obtain ⟨r, a1, a2⟩ := c_alike (σ := WL (WL σ 108 F (lgn g (hsP g c) (gK g c))) 116 F' (lgn g (hsP g d) (gK g d))) (a := 111) (b := 119) (f := lgf g (hsP g c) (gK g c)) (h := lgf g (hsP g d) (gK g d)) (show lgn g (hsP g c) (gK g c) ≤ 60 by omega) (show lgn g (hsP g d) (gK g d) ≤ 60 by omega) (fun i hi => ⟨by rw [WL_o (by omega) (by omega)]; exact (WL_f (q := 108)).trans (p2 i hi), by have := lf.1 i hi; omega⟩) (fun i hi => ⟨(WL_f (q := 116)).trans (p4 i hi), by have := lf2.1 i hi; omega⟩)
      obtain ⟨s, b1, b2⟩ := m_alike (f := lgf g (hsP g d) (gK g d)) (h := lgf g (hsP g c) (gK g c)) (W27_45 (F := G') (n := lgn g (hsP g d) (gK g d))) ((W27_o (Or.inr (by decide)) (by decide)).trans (W28_47 (τ := W27 τ1 G (lgn g (hsP g c) (gK g c))) (F := va_cpy ((W27 τ1 G (lgn g (hsP g c) (gK g c))).1 27) ((W27 τ1 G (lgn g (hsP g c) (gK g c))).1 28) 0 0 (lgn g (hsP g c) (gK g c))) (n := lgn g (hsP g c) (gK g c)))) (by omega) (by omega) (fun i hi => ⟨W27_27.trans (r4 i hi), by have := lf2.1 i hi; omega⟩) (fun i hi => ⟨by
        rw [W27_o (by omega) (by decide), W28_28, cpy_at hi]
        exact W27_27.trans (r2 i hi), by have := lf.1 i hi; omega⟩)
      have hrs := AlS_u a1 (AlS_sym b1)
      rw [are_t e1 f1, bnd1_some, if_pos n01, p1, bnd1_some, p3, bnd1_some, WL_n, show gI (WL (WL σ 108 F (lgn g (hsP g c) (gK g c))) 116 F' (lgn g (hsP g d) (gK g d))) 108 2 = nI (lgn g (hsP g c) (gK g c)) from (WL_o (by omega) (by omega)).trans WL_n, show (108 : Nat) + 3 = 111 from rfl, show (116 : Nat) + 3 = 119 from rfl, a2, bnd1_some, f2, bnd1_some, if_pos n01, hc, bnd1_some, r1, bnd1_some, k1, bnd1_some, r3, bnd1_some, b2, bnd1_some, hrs]
      exact ⟨_, _, _, rfl, rfl, Rel_KC (WL_KC (by decide) (WL_KC (by decide) KC.refl)) (Rel_KM ((KQ.refl.W27).W28.W27).1 hR)⟩
    · rw [are_g e1 f1, bnd1_some, if_neg z00, f2, bnd1_some, if_neg z00]
      exact ⟨_, _, _, rfl, rfl, h⟩
  · rw [are_f e1, bnd1_some, if_neg z00, e2, bnd1_some, if_pos rfl]
    exact ⟨_, _, _, rfl, rfl, h⟩
theorem st_32 : Sp_32 Rel := by
  intro σ τ h a b d
  obtain ⟨T, t, l, g, τ1, hc, hK, hR, hQ, hT, hM, _⟩ := ask_start2 h
  obtain ⟨hW, hO, hP, hn⟩ := q_bd hQ
  unfold M_X8_ahead M_X9_ahead
  rcases q_isCopy hT a with ⟨c, hc5, rfl, e1, e2⟩ | ⟨e1, e2⟩
  · rw [e1, bnd1_some, if_neg n10, e2, bnd1_some, if_neg n10]
    rcases q_isWrite2 hQ hM b with ⟨w, hw, rfl, f1, f2⟩ | ⟨f1, f2⟩
    · rw [f1, bnd1_some, if_neg n10, f2, bnd1_some, if_neg n10]
      rcases q_isWrite2 hQ hM d with ⟨v, hv, rfl, g1, g2⟩ | ⟨g1, g2⟩
      · rw [g1, bnd1_some, if_neg n10, g2, bnd1_some, if_neg n10]
        by_cases hwv : nI w = nI v
        · rw [if_neg (fun z => z hwv), if_neg (fun z => z hwv)]
          exact ⟨_, _, _, rfl, rfl, h⟩
        · rw [if_pos hwv, if_pos hwv]
          obtain ⟨F, p1, p2⟩ := c_line (q := 108) (c := c) hQ (by decide) (by omega)
          obtain ⟨G, r1, r2⟩ := m_log (c := c) hQ (by omega)
          have hI := hQ.2.2.2.2.1
          have lf := lg_facts hI (show c < 5 by omega)
          have hN := lf.2.2.1
          have hR' : Rel σ (W27 τ1 G (lgn g (hsP g c) (gK g c))) := Rel_KM (KQ.refl.W27).1 hR
          have mw := m_where (w := w) (f := lgf g (hsP g c) (gK g c)) (W27_45 (τ := τ1) (F := G) (n := lgn g (hsP g c) (gK g c))) (by omega) (by omega) (fun i hi => ⟨W27_27.trans (r2 i hi), by have := lf.1 i hi; omega⟩)
          have mv := m_where (w := v) (f := lgf g (hsP g c) (gK g c)) (W27_45 (τ := τ1) (F := G) (n := lgn g (hsP g c) (gK g c))) (by omega) (by omega) (fun i hi => ⟨W27_27.trans (r2 i hi), by have := lf.1 i hi; omega⟩)
          have cw := c_place (w := w) (f := lgf g (hsP g c) (gK g c)) (WL_n (σ := σ) (q := 108) (F := F) (n := lgn g (hsP g c) (gK g c))) (by omega) (by omega) (fun i hi => ⟨WL_f.trans (p2 i hi), by have := lf.1 i hi; omega⟩)
          have cv := c_place (w := v) (f := lgf g (hsP g c) (gK g c)) (WL_n (σ := σ) (q := 108) (F := F) (n := lgn g (hsP g c) (gK g c))) (by omega) (by omega) (fun i hi => ⟨WL_f.trans (p2 i hi), by have := lf.1 i hi; omega⟩)
          rw [q_has hQ (by omega) (by omega), bnd1_some, q_has hQ (by omega) (by omega), bnd1_some, hc, bnd1_some, r1, bnd1_some, p1, bnd1_some]
          by_cases hA : gA g c w = 1
          · obtain ⟨i0, hi0, hie0⟩ := lf.2.2.2.2 w hw hA
            obtain ⟨i, hi, hie, mw⟩ := mw.resolve_right (fun z => z.1 i0 hi0 hie0)
            obtain ⟨i', hi', hie', cw⟩ := cw.resolve_right (fun z => z.1 i0 hi0 hie0)
            obtain rfl : i' = i := lg_u hI (show c < 5 by omega) hi' hi (by rw [hie', hie])
            rw [if_pos hA, if_neg n10, mw, bnd1_some, if_neg (nI_n0 (by omega))]
            by_cases hB : gA g c v = 1
            · obtain ⟨j0, hj0, hje0⟩ := lf.2.2.2.2 v hv hB
              obtain ⟨j, hj, hje, mv⟩ := mv.resolve_right (fun z => z.1 j0 hj0 hje0)
              obtain ⟨j', hj', hje', cv⟩ := cv.resolve_right (fun z => z.1 j0 hj0 hje0)
              obtain rfl : j' = j := lg_u hI (show c < 5 by omega) hj' hj (by rw [hje', hje])
              rw [if_pos hB, if_pos n01, cw, bnd1_some, cv, bnd1_some, mv, bnd1_some, if_pos (i0le (by omega)), bnd1_some, bnd1_some]
              by_cases hq : nI j' ≤ nI i'
              · rw [if_pos hq, if_pos hq]
                exact ⟨_, _, _, rfl, rfl, Rel_KC (WL_KC (by decide) KC.refl) hR'⟩
              · rw [if_neg hq, if_neg hq]
                exact ⟨_, _, _, rfl, rfl, Rel_KC (WL_KC (by decide) KC.refl) hR'⟩
            · obtain ⟨_, mv⟩ := mv.resolve_left (fun ⟨j, hj, hje, _⟩ => hB (by rw [← hje]; exact lf.2.2.2.1 j hj))
              rw [if_neg hB, if_neg z00, mv, bnd1_some, if_neg (show ¬ (0 : Int32) ≤ -1 by decide)]
              exact ⟨_, _, _, rfl, rfl, hR'⟩
          · obtain ⟨_, mw⟩ := mw.resolve_left (fun ⟨j, hj, hje, _⟩ => hA (by rw [← hje]; exact lf.2.2.2.1 j hj))
            rw [if_neg hA, if_pos rfl, mw, bnd1_some, if_pos (show (-1 : Int32) < 0 by decide)]
            exact ⟨_, _, _, rfl, rfl, hR'⟩
      · rw [g1, bnd1_some, if_pos rfl, g2, bnd1_some, if_pos rfl]
        exact ⟨_, _, _, rfl, rfl, h⟩
    · rw [f1, bnd1_some, if_pos rfl, f2, bnd1_some, if_pos rfl]
      exact ⟨_, _, _, rfl, rfl, h⟩
  · rw [e1, bnd1_some, if_pos rfl, e2, bnd1_some, if_pos rfl]
    exact ⟨_, _, _, rfl, rfl, h⟩
