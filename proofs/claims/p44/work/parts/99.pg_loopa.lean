/-! expressions: the loop, where a unit is wanted -/
section EA0
variable {l : Nat} {τ0 τ : Wd}
theorem G_goes2 (h : MFT l τ0 τ) : ∃ τ', M_X9_goesOn τ = some τ' ∧ MFT l τ0 τ' ∧ ∀ c j, ¬ (c = 0 ∧ j = 11) → gI τ' c j = gI τ c j := by
  obtain ⟨P, p1, p2⟩ := h.2.2.2.2.2.2
  unfold M_X9_goesOn
  rw [p2]
  by_cases h4 : P = 400
  · subst h4
    rw [if_neg (fun z => z rfl), G_fail h, bnd1_some]
    exact ⟨_, rfl, h, fun _ _ _ => rfl⟩
  · rw [if_pos (show nI P ≠ 400 from fun z => h4 ((nI_eq (b := 400) (by omega) (by omega)).mp z)), nI_1]
    exact ⟨_, rfl, h.wP (by omega), fun c j z => by rw [gI_uI, if_neg z]⟩
theorem B23_F (h : MFT l τ0 τ) {n : Nat} (hn : 1 ≤ n) : B23 n τ = some (.inr (.inr τ)) := by
  obtain ⟨n', rfl⟩ : ∃ n', n = n' + 1 := ⟨n - 1, by omega⟩
  unfold B23
  rw [it_x (x := τ) (by
    show M_X9_expression_L23 0 τ = _
    unfold M_X9_expression_L23
    rw [G_is h, bnd1_some, if_pos rfl]), bnd1_some, G_unit h, bnd1_some, if_neg (pos_ne h.2.1).2]
end EA0
section EA
variable {u : Nat → Nat} {e n0 g l P fl a nc : Nat} {σ0 τ0 σ1 τ1 : Wd}
theorem loop_A (he : e ≤ 2000) {s w d m mc v5 n n1 n2 : Nat} {v : Int32} {W : Nat → Nat} {cs : List (Nat × Int32)} {NV NA : Nat → Nat} {σ τ : Wd} (h : EX u e n0 g l P fl a nc σ0 τ0 σ1 τ1 s w d 0 W cs σ τ) (hN : Nm m mc nc fl NV NA σ τ) (hv : v5 ≤ 400) (hn : 1 ≤ n) (hn1 : 1 ≤ n1)
    (IHA : ∀ w' d' W' σ' τ', EX u e n0 g l (P + 1) fl a nc σ0 τ0 σ1 τ1 s w' d' 0 W' cs σ' τ' → ∃ σx x, iter (cbL v) n (nI d', 1, 1, nI (v5 + 1), σ') = some σx ∧ cntL n2 (B23 n1 τ') = some x ∧ FinL u e n0 g l (P + 1) fl a nc σ0 τ0 σ1 τ1 σx x)
    (IHB : ∀ fl' s' cs' σ' τ', (fl' = 0 → fl = 0) → EX u e n0 g l (P + 1) fl' a nc σ0 τ0 σ1 τ1 s' w d 1 W cs' σ' τ' → ∃ σx x, iter (cbL v) n (nI d, 0, 1, nI (v5 + 1), σ') = some σx ∧ cntL n2 (B96 FU τ') = some x ∧ FinL u e n0 g l (P + 1) fl' a nc σ0 τ0 σ1 τ1 σx x) :
    ∃ σx x, iter (cbL v) (n + 1) (nI d, 1, 1, nI v5, σ) = some σx ∧ cntL n2 (B23 (n1 + 1) τ) = some x ∧ FinL u e n0 g l P fl a nc σ0 τ0 σ1 τ1 σx x := by
  have hbd := Wt_bd h.2.2.1
  have hB := h.1
  obtain ⟨b1, b2, b3, b4, b5⟩ := h.2.1
  obtain ⟨w1, w2, w3, _⟩ := h.2.2.1
  have hg := hB.2.1.2.2.2.2.2.1
  have hl := hB.2.2.1.2.2.2.2.1
  have h27 := hB.2.1.2.2.2.1
  have h13 := hB.2.2.1.2.2.1
  have hP : P ≤ 400 := hB.1.2.1
  obtain ⟨st, kd⟩ := b_start hB
  have hVK := (kTk_VK (u := u) (e := e) (k := P)).1
  have is6 := b_is hB (k := 6) (by decide)
  have is6 : M_X9_is τ 6 = _ := is6
  have pre : ∀ r, cbL v (nI d, 1, 1, nI v5, σ) = r ↔ (if nI (ck (kTk u e P)) ≠ 40 then M_X3_takeExpression_J100 σ v (nI d) 1 1 (nI v5) (nI (ck (kTk u e P))) else if nI d < 6 then M_X3_takeExpression_J82 σ v (nI d) 1 1 (nI v5) (nI (ck (kTk u e P))) else bnd1 (M_X3_fail σ 2) fun s_79 => M_X3_takeExpression_J82 s_79 v (nI d) 1 1 (nI v5) (nI (ck (kTk u e P)))) = r := fun r => by
    show M_X3_takeExpression_L31 v (nI d) 1 1 (nI v5) σ = r ↔ _
    unfold M_X3_takeExpression_L31
    rw [if_neg (show ¬ (400 : Int32) < nI v5 from fun z => by have := (nI_ltI (a := 400) (by omega) (by omega)).mp z; omega), if_neg n10, h27, if_neg z00, kd, bnd1_some, if_neg n10]
  by_cases k6 : kTk u e P = 6
  · have kk : nI (ck (kTk u e P)) = 40 := by rw [k6]; rfl
    have m46 : ∀ τf, gI τf 0 12 = nI d → M_X9_expression_J46 τf 0 = bnd1 (M_X9_goesOn (uI τf 0 12 (nI (d + 1)))) fun s_57 => chk (ib (gI s_57 0 37) 64) (lt (uI s_57 22 (ix (gI s_57 0 37)) (6 : Int32)) fun s_70 => lt (uI s_70 0 37 ((gI s_70 0 37) + (1 : Int32))) fun s_78 => some (.inl s_78)) := fun τf hf => by
      unfold M_X9_expression_J46
      simp only [lt_eq]
      rw [hf, nI_1]
    have mpush : ∀ τf, gI τf 0 37 = nI w → (chk (ib (gI τf 0 37) 64) (lt (uI τf 22 (ix (gI τf 0 37)) (6 : Int32)) fun s_70 => lt (uI s_70 0 37 ((gI s_70 0 37) + (1 : Int32))) fun s_78 => (some (.inl s_78) : Option (Wd ⊕ Wd)))) = some (.inl (puM τf w 6)) := fun τf hf => by
      simp only [lt_eq]
      rw [hf, chk_pos ((ib_nI (by omega)).mpr (by omega)), ix_nI (by omega), show gI (uI τf 22 w 6) 0 37 = nI w by rw [gI_uI, if_neg (by omega)]; exact hf, nI_1]
      rfl
    by_cases hd6 : d < 6
    · have hBp : Bs u e n0 g l P fl 0 σ0 τ0 (puC σ w (nI (ck 6))) (uI τ 0 12 (nI (d + 1))) := by
        unfold puC
        exact Bs.wM (Bs.wC (Bs.wC hB (by omega) (fun z => by omega) (fun z => by omega)) (by omega) (fun z => ⟨by decide, by decide, by decide⟩) (fun z => by omega)) (by unfold okm; omega) (fun _ => ⟨by decide, by decide, by decide, by decide⟩)
      have tk := b_take hBp (k := 6) (by decide) (by decide)
      have go := b_goes hBp
      rw [if_pos k6] at tk
      have sC : cbL v (nI d, 1, 1, nI v5, σ) = some (.inl (nI (d + 1), 1, 1, nI (v5 + 1), if P < 400 then uI (puC σ w (nI (ck 6))) 6 4 (nI (P + 1)) else flC (puC σ w (nI (ck 6))) 2 (sq u e P))) := (pre _).mpr (by
        rw [if_neg (fun z => z kk), if_pos (show nI d < 6 from (nI_ltI (b := 6) (by omega) (by omega)).mpr hd6), k6]
        unfold M_X3_takeExpression_J82
        simp only [lt_eq]
        rw [nI_1, nI_1, c_put w1 (by omega), bnd1_some, tk, bnd1_some])
      have sM : M_X9_expression_L23 0 τ = bnd1 (some (if P < 400 then uI (uI τ 0 12 (nI (d + 1))) 0 11 (nI (P + 1)) else flM (uI τ 0 12 (nI (d + 1))) 2 (sq u e P))) fun s_57 => chk (ib (gI s_57 0 37) 64) (lt (uI s_57 22 (ix (gI s_57 0 37)) (6 : Int32)) fun s_70 => lt (uI s_70 0 37 ((gI s_70 0 37) + (1 : Int32))) fun s_78 => some (.inl s_78)) := by
        unfold M_X9_expression_L23
        rw [is6, bnd1_some, decide_eq_true k6, if_neg (show ¬ boI true = 0 by decide), b3, if_pos (show nI d ≠ 6 from fun z => by have := (nI_eq (b := 6) (by omega) (by omega)).mp z; omega), m46 τ b3, go]
      by_cases h4 : P < 400
      · rw [if_pos h4] at sC sM
        rw [bnd1_some, mpush _ (by rw [gI_uI, if_neg (by omega), gI_uI, if_neg (by omega)]; exact w2)] at sM
        obtain ⟨σx, x, y1, y2, y3⟩ := IHA _ _ _ _ _ (h.paren h4 k6 hd6)
        refine ⟨σx, x, (it_s sC).trans y1, ?_, FinL_up y3 (by omega) (fun z => z)⟩
        unfold B23 at y2 ⊢
        rw [it_s sM]
        exact y2
      · rw [if_neg h4] at sC sM
        rw [bnd1_some, mpush _ (by unfold flM; rw [gI_uI, if_neg (by omega), gI_uI, if_neg (by omega), gI_uI, if_neg (by omega)]; exact w2)] at sM
        obtain ⟨n', rfl⟩ : ∃ n', n = n' + 1 := ⟨n - 1, by omega⟩
        have hF : FLT g l σ0 τ0 (flC (puC σ w (nI (ck 6))) 2 (sq u e P)) (puM (flM (uI τ 0 12 (nI (d + 1))) 2 (sq u e P)) w 6) := by
          unfold puM
          exact FLT.mI (FLT.mI (hBp.fault (Or.inr rfl)) (by unfold okm; omega) (fun z => absurd z (by decide))) (by unfold okm; omega) (fun _ => ⟨by decide, by decide, by decide⟩)
        refine ⟨_, .inr (puM (flM (uI τ 0 12 (nI (d + 1))) 2 (sq u e P)) w 6), (it_s sC).trans (cbL_F hF.ne.1), ?_, FinL_F hF (show w + 1 ≤ 32 by omega) (flC_25 (by unfold puC; exact gI_s))⟩
        have e1 : B23 (n1 + 1) τ = B23 n1 (puM (flM (uI τ 0 12 (nI (d + 1))) 2 (sq u e P)) w 6) := by
          unfold B23
          rw [it_s sM]
        obtain ⟨_, _, _, _, _, _, _, q6⟩ := hF
        rw [e1, B23_F q6 hn1]
        rfl
    · have hd : d = 6 := by omega
      obtain ⟨f1, f2⟩ := b_fail hB (f := 2) (Or.inr rfl)
      have f1 : M_X3_fail σ 2 = _ := f1
      have f2 : M_X9_fail τ 2 = _ := f2
      have hF0 := hB.fault (f := 2) (Or.inr rfl)
      have hF1 : FLT g l σ0 τ0 (puC (flC σ 2 (sq u e P)) w (nI (ck 6))) (flM τ 2 (sq u e P)) := hF0.c (fun σf hc => by
        unfold puC
        exact CFT.w5 (CFT.wI (by omega) (fun z => by omega) (fun z => by omega) (fun z => by omega) hc))
      have hF2 : FLT g l σ0 τ0 (puC (flC σ 2 (sq u e P)) w (nI (ck 6))) (uI (flM τ 2 (sq u e P)) 0 12 (nI (d + 1))) := hF1.mI (by unfold okm; omega) (fun _ => ⟨by decide, by decide, by decide⟩)
      obtain ⟨σf, τf, q1, q2, q3, q4, q5, q6⟩ := hF2
      obtain ⟨τg, t1, t2, t3⟩ := G_goes2 q6
      have e37 : gI τg 0 37 = nI w := by
        rw [t3 0 37 (by omega), gI_uI, if_neg (by omega)]
        unfold flM
        rw [gI_uI, if_neg (by omega), gI_uI, if_neg (by omega)]
        exact w2
      have t4 : MFT l τf (puM τg w 6) := by
        unfold puM
        exact MFT.wI (by unfold okm; omega) (fun _ => ⟨by decide, by decide, by decide⟩) (MFT.wI (by unfold okm; omega) (fun z => absurd z (by decide)) t2)
      have hF : FLT g l σ0 τ0 (puC (flC σ 2 (sq u e P)) w (nI (ck 6))) (puM τg w 6) := ⟨σf, τf, q1, q2, q3, q4, q5, t4⟩
      have sC : cbL v (nI d, 1, 1, nI v5, σ) = some (.inl (nI (d + 1), 1, 1, nI (v5 + 1), puC (flC σ 2 (sq u e P)) w (nI (ck 6)))) := (pre _).mpr (by
        rw [if_neg (fun z => z kk), if_neg (show ¬ nI d < 6 from fun z => by have := (nI_ltI (b := 6) (by omega) (by omega)).mp z; omega), f1, bnd1_some, k6]
        unfold M_X3_takeExpression_J82
        simp only [lt_eq]
        rw [nI_1, nI_1, c_put (flC_25 w1) (by omega), bnd1_some, F_take q5, bnd1_some])
      have sM : M_X9_expression_L23 0 τ = some (.inl (puM τg w 6)) := by
        unfold M_X9_expression_L23
        rw [is6, bnd1_some, decide_eq_true k6, if_neg (show ¬ boI true = 0 by decide), b3, if_neg (fun z => z (by rw [hd]; rfl)), f2, bnd1_some, m46 _ (by unfold flM; rw [gI_uI, if_neg (by omega), gI_uI, if_neg (by omega)]; exact b3), t1, bnd1_some, mpush _ e37]
      obtain ⟨n', rfl⟩ : ∃ n', n = n' + 1 := ⟨n - 1, by omega⟩
      refine ⟨_, .inr (puM τg w 6), (it_s sC).trans (cbL_F hF.ne.1), ?_, FinL_F hF (show w + 1 ≤ 32 by omega) (by unfold puC; exact gI_s)⟩
      have e1 : B23 (n1 + 1) τ = B23 n1 (puM τg w 6) := by
        unfold B23
        rw [it_s sM]
      rw [e1, B23_F t4 hn1]
      rfl
  · obtain ⟨σa, σ', τ', x1, x2, x3, x4⟩ := h.unit he hN k6
    have e40 : nI (ck (kTk u e P)) ≠ 40 := fun z => k6 ((ck_eq (b := 6) hVK (by decide)).mp z)
    have isv := isv_t ⟨kTk u e P, VK_lt hVK⟩ hVK
    have isv : M_X3_isValue (nI (ck (kTk u e P))) = some (boI (decide (kTk u e P = 2 ∨ kTk u e P = 28 ∨ kTk u e P = 29 ∨ kTk u e P = 30))) := isv
    have sC : cbL v (nI d, 1, 1, nI v5, σ) = some (.inl (nI d, 0, 1, nI (v5 + 1), σ')) := (pre _).mpr (by
      rw [if_pos e40]
      unfold M_X3_takeExpression_J100 M_X3_takeExpression_J125
      rw [if_neg n10, x1, bnd1_some, isv, bnd1_some]
      simp only [lt_eq]
      rw [nI_1]
      by_cases q : decide (kTk u e P = 2 ∨ kTk u e P = 28 ∨ kTk u e P = 29 ∨ kTk u e P = 30) = true
      · rw [if_pos q] at x2
        rw [q, if_neg (show ¬ boI true = 0 by decide), x2, bnd1_some]
      · rw [if_neg q] at x2
        rw [Bool.eq_false_iff.mpr q, if_pos (show boI false = 0 from rfl), x2, bnd1_some])
    have sM : B23 (n1 + 1) τ = if (gI τ' 0 13) ≤ 0 then B96 FU τ' else some (.inr (.inr τ')) := by
      unfold B23
      rw [it_x (x := τ) (by
        show M_X9_expression_L23 0 τ = _
        unfold M_X9_expression_L23
        rw [is6, bnd1_some, decide_eq_false k6, if_pos (show boI false = 0 from rfl)]), bnd1_some, x3, bnd1_some]
    rw [sM]
    rcases x4 with ⟨fl', cs', f1, f2⟩ | ⟨f1, f2⟩
    · obtain ⟨σx, x, y1, y2, y3⟩ := IHB fl' _ cs' σ' τ' f1 f2
      rw [if_pos (by rw [f2.1.2.2.1.2.2.1]; decide)]
      exact ⟨σx, x, (it_s sC).trans y1, y2, FinL_up y3 (by omega) f1⟩
    · obtain ⟨n', rfl⟩ : ∃ n', n = n' + 1 := ⟨n - 1, by omega⟩
      rw [if_neg f1.ne.2.2]
      exact ⟨σ', .inr τ', (it_s sC).trans (cbL_F f1.ne.1), rfl, FinL_F f1 (by omega) f2⟩
end EA
