/-! what the class answers, of what its world stands for -/
/-- how the merged and the idle or stuck ones are counted -/
def mgN (T : Td) (g : Gs) (c : Nat) : Nat := cnN (fun i => decide (outS T g (lf g c) i = 1)) (ln g c)
def idN (T : Td) (g : Gs) (c : Nat) : Nat := cnN (fun i => decide (outS T g (lf g c) i = 2) || decide (outS T g (lf g c) i = 3)) (ln g c)
theorem c_two {T : Td} {t l : Nat} {g : Gs} {σ τ : Wd} (h : Qd T t l g σ τ) {c : Nat} (hc : c < 5) : ∃ σ', M_X8_mergedOf σ (nI c) = some (nI (mgN T g c), σ') ∧ M_X8_idleOrStuckOf σ (nI c) = some (nI (idN T g c), σ') ∧ KC σ σ' := by
  obtain ⟨hW, hO, hP, hn⟩ := q_bd h
  obtain ⟨ht, h4, hl, h18, hTI, hTC, hTM⟩ := gR_mid h.1
  have hI := h.2.2.2.2.1
  obtain ⟨σ', p1, p2, p3⟩ := c_play h (q := 108) (c := c) (by decide) hc
  have lx := ln_facts hI hc
  have hN : ln g c ≤ 60 := Nat.le_trans lx.2.2.1 hW
  have k1 := c_many (B := fun i => decide (outS T g (lf g c) i = 1)) (v := 1) p3 hN (fun i _ => by simp)
  have k2 := c_many (B := fun i => decide (outS T g (lf g c) i = 2)) (v := 2) p3 hN (fun i _ => by simp)
  have k3 := c_many (B := fun i => decide (outS T g (lf g c) i = 3)) (v := 3) p3 hN (fun i _ => by simp)
  have e := cnN_or (P := fun i => decide (outS T g (lf g c) i = 2)) (Q := fun i => decide (outS T g (lf g c) i = 3)) (R := fun i => decide (outS T g (lf g c) i = 2) || decide (outS T g (lf g c) i = 3)) (ln g c) (fun i hi => ⟨rfl, fun z => by
    have z1 : outS T g (lf g c) i = 2 := of_decide_eq_true z.1
    have z2 : outS T g (lf g c) i = 3 := of_decide_eq_true z.2
    rw [z1] at z2
    exact absurd z2 (by decide)⟩)
  refine ⟨σ', ?_, ?_, p2.kc (by decide)⟩
  · unfold M_X8_mergedOf
    rw [h4, chk_pos ht, p1, bnd1_some, k1, bnd1_some]
    rfl
  · unfold M_X8_idleOrStuckOf
    rw [h4, chk_pos ht, p1, bnd1_some, k2, bnd1_some, k3, bnd1_some, nI_add, e]
    rfl
/-- whether two are alike, as class says it -/
theorem c_al3 {T : Td} {t l : Nat} {g : Gs} {σ τ : Wd} (h : Qd T t l g σ τ) {a b : Nat} (ha : a < 5) (hb : b < 5) : M_X1_areAlike σ (nI a) (nI b) = some (boI (al3 g a b)) := by
  obtain ⟨r, _, r1, r2⟩ := q_alike h ha hb
  rw [m_alike3 h ha hb] at r2
  rw [r1, ← r2]
/-- whether all are alike -/
def allB (g : Gs) : Nat → Bool
  | 0 => true
  | k + 1 => allB g k && (decide (k = 0) || al3 g 0 k)
theorem allB_iff {g : Gs} : ∀ k, allB g k = true ↔ ∀ c, 1 ≤ c → c < k → al3 g 0 c = true := by
  intro k
  induction k with
  | zero => exact ⟨fun _ c _ h => absurd h (by omega), fun _ => rfl⟩
  | succ k ih =>
    show (allB g k && (decide (k = 0) || al3 g 0 k)) = true ↔ _
    rw [Bool.and_eq_true, ih, Bool.or_eq_true, decide_eq_true_eq]
    constructor
    · intro ⟨h1, h2⟩ c hc hck
      by_cases e : c = k
      · subst e
        rcases h2 with z | z
        · omega
        · exact z
      · exact h1 c hc (by omega)
    · intro h
      refine ⟨fun c hc hck => h c hc (by omega), ?_⟩
      by_cases e : k = 0
      · exact Or.inl e
      · exact Or.inr (h k (by omega) (by omega))
theorem c_allB {T : Td} {t l : Nat} {g : Gs} {σ τ : Wd} (h : Qd T t l g σ τ) : M_X1_allAlike σ = some (boI (allB g (tN T))) := by
  obtain ⟨hW, hO, hP, hn⟩ := q_bd h
  have run := al2_loop (body := fun s : Int32 => M_X1_allAlike_L2 σ s) (n := tN T) (i0 := 1) (C := fun c => al3 g 0 c) (by omega) (by have := h.2.2.2.2.1.1.2.2.2.2.2; omega) (fun i h1 h2 => by
    show M_X1_allAlike_L2 σ (nI i) = _
    unfold M_X1_allAlike_L2
    rw [q_copies h, bnd1_some]
    by_cases hq : tN T ≤ i
    · rw [if_pos ((nI_leI (by omega) (by omega)).mpr hq), if_pos hq]
    · rw [if_neg (fun z => hq ((nI_leI (by omega) (by omega)).mp z)), if_neg hq, show M_X1_areAlike σ 0 (nI i) = some (boI (al3 g 0 i)) from c_al3 h (a := 0) (by decide) (by omega), bnd1_some, nI_1]
      cases hb : al3 g 0 i
      · rw [if_neg (by simp [boI]), if_neg (by decide)]
      · rw [if_pos (by simp [boI]), if_pos rfl]
        rfl)
  unfold M_X1_allAlike
  rw [show (1 : Int32) = nI 1 from rfl]
  rcases run with ⟨⟨i, h1, h2, h3⟩, e⟩ | ⟨hall, e⟩
  · rw [e, bnd1_some]
    have : allB g (tN T) = false := by
      cases hb : allB g (tN T) with
      | false => rfl
      | true =>
        have := (allB_iff _).mp hb i h1 h2
        rw [h3] at this
        exact absurd this (by decide)
    rw [this]
    rfl
  · rw [e, bnd1_some]
    have : allB g (tN T) = true := (allB_iff _).mpr hall
    rw [this]
    rfl
section XQ
variable {T : Td} {g : Gs} {un : Nat} {hs sl : Nat → Gs} {hl : Nat → Nat} {σ : Wd}
/-- one copy's numbers -/
def copyV (T : Td) (g : Gs) (c k : Nat) : Int32 :=
  if c < tN T then (if k = 0 then nI (clkN g c (gW g)) else if k = 1 then nI (ln g c) else if k = 2 then nI (gK g c) else if k < 7 then iC g (k - 3) c else if k = 7 then nI (mgN T g c) else nI (idN T g c)) else -1
theorem At.n5 (h : At T g un hs sl hl σ) : 1 ≤ tN T ∧ tN T ≤ 5 ∧ tC T ≤ 6 ∧ tF T ≤ 6 ∧ gW g ≤ 60 ∧ gO g ≤ gW g ∧ gP g < tN T := ⟨h.tI.1, h.tI.2.1, h.tI.2.2.2.2.1, h.tI.2.2.2.2.2.1, h.inv.1.1, h.inv.1.2.1, h.inv.1.2.2.1⟩
theorem x_isCopy (h : At T g un hs sl hl σ) {c : Nat} (hc : c < tN T) : M_X8_isCopy σ (nI c) = some 1 := by
  obtain ⟨t, l, τ, hQ⟩ := h.qd
  obtain ⟨ht, h4, hl2, h18, hTI, hTC, hTM⟩ := gR_mid hQ.1
  have := h.n5
  exact c_isCopy_t ht h4 hTC.1.1 (by omega) hc
theorem x_noCopy (h : At T g un hs sl hl σ) {c : Nat} (hc : tN T ≤ c) (hb : c < 2 ^ 30) : M_X8_isCopy σ (nI c) = some 0 := by
  obtain ⟨t, l, τ, hQ⟩ := h.qd
  obtain ⟨ht, h4, hl2, h18, hTI, hTC, hTM⟩ := gR_mid hQ.1
  have := h.n5
  exact c_isCopy_f ht h4 hTC.1.1 (Or.inr ((nI_leI (by omega) (by omega)).mpr hc))
theorem x_isCell (h : At T g un hs sl hl σ) {c : Nat} (hc : c < tC T) : M_X8_isCell σ (nI c) = some 1 := by
  obtain ⟨t, l, τ, hQ⟩ := h.qd
  obtain ⟨ht, h4, hl2, h18, hTI, hTC, hTM⟩ := gR_mid hQ.1
  have := h.n5
  exact c_isCell_t ht h4 hTC.1.2.2.2.1 (by omega) hc
theorem x_noCell (h : At T g un hs sl hl σ) {c : Nat} (hc : tC T ≤ c) (hb : c < 2 ^ 30) : M_X8_isCell σ (nI c) = some 0 := by
  obtain ⟨t, l, τ, hQ⟩ := h.qd
  obtain ⟨ht, h4, hl2, h18, hTI, hTC, hTM⟩ := gR_mid hQ.1
  have := h.n5
  exact c_isCell_f ht h4 hTC.1.2.2.2.1 (Or.inr ((nI_leI (by omega) (by omega)).mpr hc))
theorem x_isWrite (h : At T g un hs sl hl σ) {w : Nat} (hw : w < gW g) : M_X8_isWrite σ (nI w) = some 1 := by
  obtain ⟨t, l, τ, hQ⟩ := h.qd
  have := h.n5
  exact c_isWrite_t hQ.2.1.1.2.2.1 (by omega) hw
theorem x_copy (h : At T g un hs sl hl σ) {c k : Nat} (hc : c < 2 ^ 30) (hk : k < 9) : ∃ σ', M_X8_copy σ (nI c) (nI k) = some (copyV T g c k, σ') ∧ At T g un hs sl hl σ' := by
  obtain ⟨t, l, τ, hQ⟩ := h.qd
  have n5 := h.n5
  unfold M_X8_copy copyV
  by_cases hcn : c < tN T
  · rw [x_isCopy h hcn, bnd1_some, if_pos n01, if_pos hcn]
    rcases (show k = 0 ∨ k = 1 ∨ k = 2 ∨ k = 3 ∨ k = 4 ∨ k = 5 ∨ k = 6 ∨ k = 7 ∨ k = 8 by omega) with rfl | rfl | rfl | rfl | rfl | rfl | rfl | rfl | rfl
    · refine ⟨σ, ?_, h⟩
      rw [if_pos (show nI 0 = 0 by decide), c_clk hQ (by omega), bnd1_some]
      rfl
    · refine ⟨σ, ?_, h⟩
      rw [if_neg (show ¬ nI 1 = 0 by decide), if_pos (show nI 1 = 1 by decide), c_setOf (by omega), bnd1_some, c_count hQ (by omega), bnd1_some, ← lgn_cn hQ.2.2.2.2.1 (by omega)]
      rfl
    · refine ⟨σ, ?_, h⟩
      rw [if_neg (show ¬ nI 2 = 0 by decide), if_neg (show ¬ nI 2 = 1 by decide), if_pos (show nI 2 = 2 by decide), (q_known hQ (by omega)).1, bnd1_some]
      rfl
    · refine ⟨σ, ?_, h⟩
      rw [if_neg (show ¬ nI 3 = 0 by decide), if_neg (show ¬ nI 3 = 1 by decide), if_neg (show ¬ nI 3 = 2 by decide), if_pos (show nI 3 = 3 by decide), show M_X1_copyNumber σ 16 (nI c) = some (iC g 0 c) from (q_cnt hQ (j := 0) (by decide) (by omega)).1, bnd1_some]
      rfl
    · refine ⟨σ, ?_, h⟩
      rw [if_neg (show ¬ nI 4 = 0 by decide), if_neg (show ¬ nI 4 = 1 by decide), if_neg (show ¬ nI 4 = 2 by decide), if_neg (show ¬ nI 4 = 3 by decide), if_pos (show nI 4 = 4 by decide), show M_X1_copyNumber σ 21 (nI c) = some (iC g 1 c) from (q_cnt hQ (j := 1) (by decide) (by omega)).1, bnd1_some]
      rfl
    · refine ⟨σ, ?_, h⟩
      rw [if_neg (show ¬ nI 5 = 0 by decide), if_neg (show ¬ nI 5 = 1 by decide), if_neg (show ¬ nI 5 = 2 by decide), if_neg (show ¬ nI 5 = 3 by decide), if_neg (show ¬ nI 5 = 4 by decide), if_pos (show nI 5 = 5 by decide), show M_X1_copyNumber σ 26 (nI c) = some (iC g 2 c) from (q_cnt hQ (j := 2) (by decide) (by omega)).1, bnd1_some]
      rfl
    · refine ⟨σ, ?_, h⟩
      rw [if_neg (show ¬ nI 6 = 0 by decide), if_neg (show ¬ nI 6 = 1 by decide), if_neg (show ¬ nI 6 = 2 by decide), if_neg (show ¬ nI 6 = 3 by decide), if_neg (show ¬ nI 6 = 4 by decide), if_neg (show ¬ nI 6 = 5 by decide), if_pos (show nI 6 = 6 by decide), show M_X1_copyNumber σ 31 (nI c) = some (iC g 3 c) from (q_cnt hQ (j := 3) (by decide) (by omega)).1, bnd1_some]
      rfl
    · obtain ⟨σ', p1, p2, p3⟩ := c_two hQ (c := c) (by omega)
      refine ⟨σ', ?_, h.kc p3⟩
      rw [if_neg (show ¬ nI 7 = 0 by decide), if_neg (show ¬ nI 7 = 1 by decide), if_neg (show ¬ nI 7 = 2 by decide), if_neg (show ¬ nI 7 = 3 by decide), if_neg (show ¬ nI 7 = 4 by decide), if_neg (show ¬ nI 7 = 5 by decide), if_neg (show ¬ nI 7 = 6 by decide), if_pos (show nI 7 = 7 by decide), p1, bnd2_some]
      rfl
    · obtain ⟨σ', p1, p2, p3⟩ := c_two hQ (c := c) (by omega)
      refine ⟨σ', ?_, h.kc p3⟩
      rw [if_neg (show ¬ nI 8 = 0 by decide), if_neg (show ¬ nI 8 = 1 by decide), if_neg (show ¬ nI 8 = 2 by decide), if_neg (show ¬ nI 8 = 3 by decide), if_neg (show ¬ nI 8 = 4 by decide), if_neg (show ¬ nI 8 = 5 by decide), if_neg (show ¬ nI 8 = 6 by decide), if_neg (show ¬ nI 8 = 7 by decide), if_pos (show nI 8 = 8 by decide), p2, bnd2_some]
      rfl
  · rw [x_noCopy h (by omega) hc, bnd1_some, if_neg z00, if_neg hcn]
    exact ⟨σ, rfl, h⟩
theorem x_line {t l : Nat} {τ : Wd} (hQ : Qd T t l g σ τ) {c : Nat} (hc : c < tN T) : ∃ F, M_X4_line σ 108 (nI c) = some (WL σ 108 F (ln g c)) ∧ ∀ i, i < ln g c → F i = nI (lf g c i) := by
  obtain ⟨hW, hO, hP, hn⟩ := q_bd hQ
  exact c_line (q := 108) (c := c) hQ (by decide) (by omega)
theorem x_log (h : At T g un hs sl hl σ) {c i : Nat} (hc : c < tN T) (hi : i < 2 ^ 30) : ∃ σ', M_X8_log σ (nI c) (nI i) = some (if i < ln g c then nI (lf g c i) else -1, σ') ∧ At T g un hs sl hl σ' := by
  obtain ⟨t, l, τ, hQ⟩ := h.qd
  have n5 := h.n5
  obtain ⟨F, p1, p2⟩ := x_line hQ hc
  have lf := lg_facts hQ.2.2.2.2.1 (show c < 5 by omega)
  have hN : ln g c ≤ gW g := lf.2.2.1
  refine ⟨WL σ 108 F (ln g c), ?_, h.kc (WL_KC (by decide) KC.refl)⟩
  unfold M_X8_log
  rw [x_isCopy h hc, bnd1_some, if_neg n10, if_pos (i0le (by omega)), p1, bnd1_some, WL_n]
  by_cases q : i < ln g c
  · rw [if_neg (fun z => by have := (nI_leI (by omega) (by omega)).mp z; omega), chk_pos ((ib_nI (by omega)).mpr (by omega)), ix_nI (by omega), WL_f, p2 i q, if_pos q]
  · rw [if_pos ((nI_leI (by omega) (by omega)).mpr (by omega)), if_neg q]
theorem x_vector (h : At T g un hs sl hl σ) {c o : Nat} (hc : c < tN T) (ho : o < tN T) : M_X8_vector σ (nI c) (nI o) = some (nI (vecN g c o (gW g))) := by
  obtain ⟨t, l, τ, hQ⟩ := h.qd
  have n5 := h.n5
  unfold M_X8_vector
  rw [x_isCopy h hc, bnd1_some, if_neg n10, x_isCopy h ho, bnd1_some, if_neg n10, c_vec hQ (by omega) (by omega), bnd1_some]
theorem x_sess (h : At T g un hs sl hl σ) {s : Nat} (hs4 : s < 4) : M_X8_session σ (nI s) 0 = some (nI (gQ g s)) ∧ M_X8_session σ (nI s) 1 = some (iRf g s) ∧ M_X8_got σ (nI s) = some (iGt g s) ∧ gQ g s ≤ 15 := by
  obtain ⟨t, l, τ, hQ⟩ := h.qd
  obtain ⟨hc0, hc1, hc2, _⟩ := hQ.2.1.2.2.2 s hs4
  refine ⟨?_, ?_, ?_, (hQ.2.2.2.2.1.2.2.2.2.2.2.2.2.2.2.2.1 s hs4).1⟩
  · unfold M_X8_session
    rw [c_isSession_t hs4, bnd1_some, if_neg n10, if_neg (by decide), if_pos (by decide), if_neg z00]
    unfold M_X8_session_J33
    rw [show (44 : Int32) = nI 44 from rfl, c_snumber (by omega), bnd1_some]
    exact congrArg some (lN32 hc0)
  · unfold M_X8_session
    rw [c_isSession_t hs4, bnd1_some, if_neg n10, if_neg (by decide), if_pos (by decide), if_pos n01]
    unfold M_X8_session_J33
    rw [show (48 : Int32) = nI 48 from rfl, c_snumber (by omega), bnd1_some]
    exact congrArg some hc1
  · unfold M_X8_got
    rw [c_isSession_t hs4, bnd1_some, if_neg n10, show (52 : Int32) = nI 52 from rfl, c_snumber (by omega), bnd1_some]
    exact congrArg some hc2
theorem x_of (h : At T g un hs sl hl σ) {s o : Nat} (hs4 : s < 4) (ho : o < tN T) : M_X8_of σ (nI s) (nI o) 0 = some (nI (gE g s o)) ∧ M_X8_of σ (nI s) (nI o) 1 = some (nI (gU g s o)) := by
  obtain ⟨t, l, τ, hQ⟩ := h.qd
  have n5 := h.n5
  obtain ⟨_, _, _, hc⟩ := hQ.2.1.2.2.2 s hs4
  obtain ⟨hE, hU⟩ := hc o (by omega)
  refine ⟨?_, ?_⟩
  · unfold M_X8_of
    rw [c_isSession_t hs4, bnd1_some, if_neg n10, x_isCopy h ho, bnd1_some, if_pos n01, if_pos rfl]
    unfold M_X8_of_J32
    rw [show (56 : Int32) = nI 56 from rfl, c_svector (by omega), bnd1_some]
    exact congrArg some (lN32 ((congrArg (σ.2.1 29) (by omega)).trans hE))
  · unfold M_X8_of
    rw [c_isSession_t hs4, bnd1_some, if_neg n10, x_isCopy h ho, bnd1_some, if_pos n01, if_neg n10]
    unfold M_X8_of_J32
    rw [show (76 : Int32) = nI 76 from rfl, c_svector (by omega), bnd1_some]
    exact congrArg some (lN32 ((congrArg (σ.2.1 29) (by omega)).trans hU))
theorem x_shut (h : At T g un hs sl hl σ) {i : Nat} (hi : i < 8) : M_X8_shut σ (nI i) = some (if i < gH g then nI (gh g i) else -2) := by
  obtain ⟨t, l, τ, hQ⟩ := h.qd
  have n5 := h.n5
  have hH := hQ.2.2.2.2.1.1.2.2.2.1
  have e5 : gL σ 29 5 = lN (gH g) := hQ.2.1.1.2.2.2.2.2
  unfold M_X8_shut M_X1_latelyClosed
  rw [if_neg (nI_n0 (by omega)), if_pos (by rw [show (8 : Int32) = nI 8 from rfl, nI_ltI (by omega) (by omega)]; exact hi), chk_pos (by decide), show ix (5 : Int32) = 5 from rfl, e5, nI_l (by omega)]
  by_cases hq : i < gH g
  · rw [if_neg (fun z => by have := (lN_le (by omega) (by omega)).mp ((lg_cmp_ge _ _).mp z); omega), if_pos hq, show (36 : Int32) + nI i = nI (36 + i) from nI_add 36 i, chk_pos ((ib_nI (by omega)).mpr (by omega)), ix_nI (by omega), bnd1_some]
    exact congrArg some (lN32 (hQ.2.1.2.1 i hq))
  · rw [if_pos ((lg_cmp_ge _ _).mpr ((lN_le (by omega) (by omega)).mpr (by omega))), if_neg hq, bnd1_some]
theorem x_with (h : At T g un hs sl hl σ) {w : Nat} (hw : w < gW g) : M_X8_with σ (nI w) = some (iX g w) := by
  obtain ⟨t, l, τ, hQ⟩ := h.qd
  have n5 := h.n5
  unfold M_X8_with
  rw [x_isWrite h hw, bnd1_some, if_neg n10, chk_pos ((ib_nI (by omega)).mpr (by omega)), ix_nI (by omega)]
  exact congrArg some (q_arr hQ hw).2.1
theorem x_write (h : At T g un hs sl hl σ) {w : Nat} (hw : w < gW g) : M_X8_write σ (nI w) 0 = some (nI (gF g w)) ∧ M_X8_write σ (nI w) 1 = some (nI (gN g w)) ∧ M_X8_write σ (nI w) 2 = some (nI (gS g w)) ∧ M_X8_write σ (nI w) 4 = some (mkN (fun c => decide (gA g c w = 1)) (tN T)) ∧ ∃ r, M_X8_write σ (nI w) 3 = some r ∧ ((∃ i, i < gO g ∧ gD g i = w ∧ r = nI i) ∨ ((∀ i, i < gO g → gD g i ≠ w) ∧ r = -2)) := by
  obtain ⟨t, l, τ, hQ⟩ := h.qd
  have n5 := h.n5
  have qa := q_arr hQ hw
  obtain ⟨r3, p1, p2, p3⟩ := q_place hQ hw
  have e : ∀ v2, M_X8_write σ (nI w) v2 = _ := fun v2 => by
    unfold M_X8_write
    rw [x_isWrite h hw, bnd1_some, if_pos n01, chk_pos ((ib_nI (by omega)).mpr (by omega)), chk_pos ((ib_nI (by omega)).mpr (by omega)), chk_pos ((ib_nI (by omega)).mpr (by omega)), ix_nI (by omega), qa.1, qa.2.2.1, qa.2.2.2, p1, bnd1_some, c_holders hQ (by omega), bnd1_some]
  refine ⟨?_, ?_, ?_, ?_, r3, ?_, p3⟩
  · rw [e, if_pos rfl]
  · rw [e, if_neg (by decide), if_pos rfl]
  · rw [e, if_neg (by decide), if_neg (by decide), if_pos rfl]
  · rw [e, if_neg (by decide), if_neg (by decide), if_neg (by decide), if_neg (by decide), if_pos rfl]
  · rw [e, if_neg (by decide), if_neg (by decide), if_neg (by decide), if_pos rfl]
theorem x_count0 (h : At T g un hs sl hl σ) : M_X8_count σ 0 = some (nI (tN T), σ) := by
  obtain ⟨t, l, τ, hQ⟩ := h.qd
  obtain ⟨ht, h4, hl2, h18, hTI, hTC, hTM⟩ := gR_mid hQ.1
  rw [show (0 : Int32) = nI 0 from rfl]
  unfold M_X8_count
  rw [if_pos (show nI 0 = 0 by decide), h4, chk_pos ht, hTC.1.1]
theorem x_count1 (h : At T g un hs sl hl σ) : M_X8_count σ 1 = some (nI (tC T), σ) := by
  obtain ⟨t, l, τ, hQ⟩ := h.qd
  obtain ⟨ht, h4, hl2, h18, hTI, hTC, hTM⟩ := gR_mid hQ.1
  rw [show (1 : Int32) = nI 1 from rfl]
  unfold M_X8_count
  rw [if_neg (show ¬ nI 1 = 0 by decide), if_pos (show nI 1 = 1 by decide), h4, chk_pos ht, hTC.1.2.2.2.1]
theorem x_count2 (h : At T g un hs sl hl σ) : M_X8_count σ 2 = some (nI (tF T), σ) := by
  obtain ⟨t, l, τ, hQ⟩ := h.qd
  obtain ⟨ht, h4, hl2, h18, hTI, hTC, hTM⟩ := gR_mid hQ.1
  rw [show (2 : Int32) = nI 2 from rfl]
  unfold M_X8_count
  rw [if_neg (show ¬ nI 2 = 0 by decide), if_neg (show ¬ nI 2 = 1 by decide), if_pos (show nI 2 = 2 by decide), h4, chk_pos ht, hTC.1.2.2.2.2]
theorem x_count3 (h : At T g un hs sl hl σ) : M_X8_count σ 3 = some (nI (gW g), σ) := by
  obtain ⟨t, l, τ, hQ⟩ := h.qd
  obtain ⟨ht, h4, hl2, h18, hTI, hTC, hTM⟩ := gR_mid hQ.1
  rw [show (3 : Int32) = nI 3 from rfl]
  unfold M_X8_count
  rw [if_neg (show ¬ nI 3 = 0 by decide), if_neg (show ¬ nI 3 = 1 by decide), if_neg (show ¬ nI 3 = 2 by decide), if_pos (show nI 3 = 3 by decide), q_writes hQ, bnd1_some]
theorem x_count4 (h : At T g un hs sl hl σ) : M_X8_count σ 4 = some (nI (gO g), σ) := by
  obtain ⟨t, l, τ, hQ⟩ := h.qd
  obtain ⟨ht, h4, hl2, h18, hTI, hTC, hTM⟩ := gR_mid hQ.1
  rw [show (4 : Int32) = nI 4 from rfl]
  unfold M_X8_count
  rw [if_neg (show ¬ nI 4 = 0 by decide), if_neg (show ¬ nI 4 = 1 by decide), if_neg (show ¬ nI 4 = 2 by decide), if_neg (show ¬ nI 4 = 3 by decide), if_pos (show nI 4 = 4 by decide), q_ordered hQ, bnd1_some]
theorem x_count5 (h : At T g un hs sl hl σ) : M_X8_count σ 5 = some (nI (gP g), σ) := by
  obtain ⟨t, l, τ, hQ⟩ := h.qd
  obtain ⟨ht, h4, hl2, h18, hTI, hTC, hTM⟩ := gR_mid hQ.1
  rw [show (5 : Int32) = nI 5 from rfl]
  unfold M_X8_count
  rw [if_neg (show ¬ nI 5 = 0 by decide), if_neg (show ¬ nI 5 = 1 by decide), if_neg (show ¬ nI 5 = 2 by decide), if_neg (show ¬ nI 5 = 3 by decide), if_neg (show ¬ nI 5 = 4 by decide), if_pos (show nI 5 = 5 by decide), show M_X1_primary σ = some (nI (gP g)) from c_primary hQ.2.1.1.2.1, bnd1_some]
theorem x_count6 (h : At T g un hs sl hl σ) : M_X8_count σ 6 = some (nI (gC g), σ) := by
  obtain ⟨t, l, τ, hQ⟩ := h.qd
  obtain ⟨ht, h4, hl2, h18, hTI, hTC, hTM⟩ := gR_mid hQ.1
  rw [show (6 : Int32) = nI 6 from rfl]
  unfold M_X8_count
  rw [if_neg (show ¬ nI 6 = 0 by decide), if_neg (show ¬ nI 6 = 1 by decide), if_neg (show ¬ nI 6 = 2 by decide), if_neg (show ¬ nI 6 = 3 by decide), if_neg (show ¬ nI 6 = 4 by decide), if_neg (show ¬ nI 6 = 5 by decide), if_pos (show nI 6 = 6 by decide), show M_X1_chances σ = some (nI (gC g)) from c_chances hQ.2.1.1.2.2.2.2.1, bnd1_some]
theorem x_count7 (h : At T g un hs sl hl σ) : M_X8_count σ 7 = some (smN g 0 (tN T), σ) := by
  obtain ⟨t, l, τ, hQ⟩ := h.qd
  obtain ⟨ht, h4, hl2, h18, hTI, hTC, hTM⟩ := gR_mid hQ.1
  rw [show (7 : Int32) = nI 7 from rfl]
  unfold M_X8_count
  rw [if_neg (show ¬ nI 7 = 0 by decide), if_neg (show ¬ nI 7 = 1 by decide), if_neg (show ¬ nI 7 = 2 by decide), if_neg (show ¬ nI 7 = 3 by decide), if_neg (show ¬ nI 7 = 4 by decide), if_neg (show ¬ nI 7 = 5 by decide), if_neg (show ¬ nI 7 = 6 by decide), if_pos (show nI 7 = 7 by decide), show M_X1_sumOfCopies σ 16 = some (smN g 0 (tN T)) from c_sum (j := 0) hQ (by decide), bnd1_some]
theorem x_count9 (h : At T g un hs sl hl σ) : M_X8_count σ 9 = some (nI un, σ) := by
  obtain ⟨t, l, τ, hQ⟩ := h.qd
  obtain ⟨ht, h4, hl2, h18, hTI, hTC, hTM⟩ := gR_mid hQ.1
  rw [show (9 : Int32) = nI 9 from rfl]
  unfold M_X8_count
  rw [if_neg (show ¬ nI 9 = 0 by decide), if_neg (show ¬ nI 9 = 1 by decide), if_neg (show ¬ nI 9 = 2 by decide), if_neg (show ¬ nI 9 = 3 by decide), if_neg (show ¬ nI 9 = 4 by decide), if_neg (show ¬ nI 9 = 5 by decide), if_neg (show ¬ nI 9 = 6 by decide), if_neg (show ¬ nI 9 = 7 by decide), if_neg (show ¬ nI 9 = 8 by decide), if_pos (show nI 9 = 9 by decide), h.hUn.2]
theorem x_count12 (h : At T g un hs sl hl σ) : M_X8_count σ 12 = some (smN g 2 (tN T), σ) := by
  obtain ⟨t, l, τ, hQ⟩ := h.qd
  rw [show (12 : Int32) = nI 12 from rfl]
  unfold M_X8_count
  rw [if_neg (show ¬ nI 12 = 0 by decide), if_neg (show ¬ nI 12 = 1 by decide), if_neg (show ¬ nI 12 = 2 by decide), if_neg (show ¬ nI 12 = 3 by decide), if_neg (show ¬ nI 12 = 4 by decide), if_neg (show ¬ nI 12 = 5 by decide), if_neg (show ¬ nI 12 = 6 by decide), if_neg (show ¬ nI 12 = 7 by decide), if_neg (show ¬ nI 12 = 8 by decide), if_neg (show ¬ nI 12 = 9 by decide)]
  unfold M_X8_countFurther
  rw [if_neg (show ¬ nI 12 = 10 by decide), if_neg (show ¬ nI 12 = 11 by decide), if_pos (show nI 12 = 12 by decide), show M_X1_sumOfCopies σ 26 = some (smN g 2 (tN T)) from c_sum (j := 2) hQ (by decide), bnd1_some, bnd2_some]
theorem x_count13 (h : At T g un hs sl hl σ) : M_X8_count σ 13 = some (smN g 3 (tN T), σ) := by
  obtain ⟨t, l, τ, hQ⟩ := h.qd
  rw [show (13 : Int32) = nI 13 from rfl]
  unfold M_X8_count
  rw [if_neg (show ¬ nI 13 = 0 by decide), if_neg (show ¬ nI 13 = 1 by decide), if_neg (show ¬ nI 13 = 2 by decide), if_neg (show ¬ nI 13 = 3 by decide), if_neg (show ¬ nI 13 = 4 by decide), if_neg (show ¬ nI 13 = 5 by decide), if_neg (show ¬ nI 13 = 6 by decide), if_neg (show ¬ nI 13 = 7 by decide), if_neg (show ¬ nI 13 = 8 by decide), if_neg (show ¬ nI 13 = 9 by decide)]
  unfold M_X8_countFurther
  rw [if_neg (show ¬ nI 13 = 10 by decide), if_neg (show ¬ nI 13 = 11 by decide), if_neg (show ¬ nI 13 = 12 by decide), if_pos (show nI 13 = 13 by decide), show M_X1_sumOfCopies σ 31 = some (smN g 3 (tN T)) from c_sum (j := 3) hQ (by decide), bnd1_some, bnd2_some]
theorem x_count14 (h : At T g un hs sl hl σ) : M_X8_count σ 14 = some (nI (mnN g (tN T)), σ) := by
  obtain ⟨t, l, τ, hQ⟩ := h.qd
  rw [show (14 : Int32) = nI 14 from rfl]
  unfold M_X8_count
  rw [if_neg (show ¬ nI 14 = 0 by decide), if_neg (show ¬ nI 14 = 1 by decide), if_neg (show ¬ nI 14 = 2 by decide), if_neg (show ¬ nI 14 = 3 by decide), if_neg (show ¬ nI 14 = 4 by decide), if_neg (show ¬ nI 14 = 5 by decide), if_neg (show ¬ nI 14 = 6 by decide), if_neg (show ¬ nI 14 = 7 by decide), if_neg (show ¬ nI 14 = 8 by decide), if_neg (show ¬ nI 14 = 9 by decide)]
  unfold M_X8_countFurther
  rw [if_neg (show ¬ nI 14 = 10 by decide), if_neg (show ¬ nI 14 = 11 by decide), if_neg (show ¬ nI 14 = 12 by decide), if_neg (show ¬ nI 14 = 13 by decide), if_pos (show nI 14 = 14 by decide), c_all hQ, bnd1_some, bnd2_some]
theorem x_count10 (h : At T g un hs sl hl σ) : M_X8_count σ 10 = some (boI (allB g (tN T)), σ) := by
  obtain ⟨t, l, τ, hQ⟩ := h.qd
  rw [show (10 : Int32) = nI 10 from rfl]
  unfold M_X8_count
  rw [if_neg (show ¬ nI 10 = 0 by decide), if_neg (show ¬ nI 10 = 1 by decide), if_neg (show ¬ nI 10 = 2 by decide), if_neg (show ¬ nI 10 = 3 by decide), if_neg (show ¬ nI 10 = 4 by decide), if_neg (show ¬ nI 10 = 5 by decide), if_neg (show ¬ nI 10 = 6 by decide), if_neg (show ¬ nI 10 = 7 by decide), if_neg (show ¬ nI 10 = 8 by decide), if_neg (show ¬ nI 10 = 9 by decide)]
  unfold M_X8_countFurther
  rw [if_pos (show nI 10 = 10 by decide), c_allB hQ, bnd1_some]
  cases allB g (tN T)
  · rw [if_pos (show boI false = 0 from rfl), bnd2_some]
    rfl
  · rw [if_neg (show ¬ boI true = 0 from n10), bnd2_some]
    rfl
/-- how many all have -/
def allN (T : Td) (g : Gs) : Nat := cnN (fun w => alB g w (tN T)) (gW g)
theorem x_count15 (h : At T g un hs sl hl σ) : M_X8_count σ 15 = some (nI (allN T g), σ) := by
  obtain ⟨t, l, τ, hQ⟩ := h.qd
  obtain ⟨hW, hO, hP, hn⟩ := q_bd hQ
  have n5 := h.n5
  have hI := hQ.2.2.2.2.1
  rw [show (15 : Int32) = nI 15 from rfl]
  unfold M_X8_count
  rw [if_neg (show ¬ nI 15 = 0 by decide), if_neg (show ¬ nI 15 = 1 by decide), if_neg (show ¬ nI 15 = 2 by decide), if_neg (show ¬ nI 15 = 3 by decide), if_neg (show ¬ nI 15 = 4 by decide), if_neg (show ¬ nI 15 = 5 by decide), if_neg (show ¬ nI 15 = 6 by decide), if_neg (show ¬ nI 15 = 7 by decide), if_neg (show ¬ nI 15 = 8 by decide), if_neg (show ¬ nI 15 = 9 by decide)]
  unfold M_X8_countFurther
  obtain ⟨x, q1, q2⟩ := c_hadAll hQ
  rw [if_neg (show ¬ nI 15 = 10 by decide), if_neg (show ¬ nI 15 = 11 by decide), if_neg (show ¬ nI 15 = 12 by decide), if_neg (show ¬ nI 15 = 13 by decide), if_neg (show ¬ nI 15 = 14 by decide), if_pos (show nI 15 = 15 by decide), q1, bnd1_some, cn64 (P := fun w => alB g w (tN T)) (W := gW g) (by omega) q2 (fun w hw => by
    have hw : alB g w (tN T) = true := hw
    obtain ⟨nn, hnn⟩ : ∃ nn, tN T = nn + 1 := ⟨tN T - 1, by omega⟩
    rw [hnn] at hw
    have hw : (alB g w nn && decide (gA g nn w = 1)) = true := hw
    rw [Bool.and_eq_true] at hw
    exact (hI.2.2.2.2.2.1 nn w (of_decide_eq_true hw.2)).1), bnd1_some, bnd2_some]
  rfl
end XQ
