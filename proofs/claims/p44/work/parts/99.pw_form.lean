/-! a form told, step by step -/
section FW
variable {u : Nat → Nat} {e n0 g l P fl s c f r k q : Nat} {NV NA : Nat → Nat} {σ0 τ0 σ τ : Wd}
theorem FS.adv (h : FS u e n0 g l P fl s c f r k q NV NA σ0 τ0 σ τ) (hk : kTk u e P ≠ 0) (h4 : P < 400) : FS u e n0 g l (P + 1) fl s c f r k q NV NA σ0 τ0 (uI σ 6 4 (nI (P + 1))) (uI τ 0 11 (nI (P + 1))) := by
  have hg := h.1.2.1.2.2.2.2.2.1
  have o1 : ∀ i j, ¬ (i = 6 ∧ j = 4) → gI (uI σ 6 4 (nI (P + 1))) i j = gI σ i j := fun i j a => by rw [gI_uI, if_neg a]
  have o2 : ∀ i j, ¬ (i = 0 ∧ j = 11) → gI (uI τ 0 11 (nI (P + 1))) i j = gI τ i j := fun i j a => by rw [gI_uI, if_neg a]
  refine h.upd (h.1.adv hk h4) (by omega) (fun z => z) (fun i j a1 a2 a3 => o1 i j a2) rfl (fun i j a1 a2 a3 => o2 i j (by omega)) rfl (fun z => ?_)
  obtain ⟨_, _, gq⟩ := h.2.2.2.2 z
  unfold PQ
  rw [o1 (g + 2) f (by omega), o1 (g + 3) f (by omega), o1 (g + 4) f (by omega), o2 15 _ (by omega), o2 16 _ (by omega), o2 17 _ (by omega)]
  exact gq
theorem v_bd (hB : Bs u e n0 g l P fl 0 σ0 τ0 σ τ) (hf : f < 6) : l < 2 ∧ 6 * l + f < 12 ∧ 6 * l ≤ 6 * l + f ∧ 6 * l + f < 6 * l + 6 := by
  have hl := hB.2.2.1.2.2.2.2.1
  omega
theorem fs_Y {P0 : Nat} (he : e ≤ 2000) (hP0 : P0 < P) (h : FS u e n0 g l P fl s c f r 3 2 NV NA σ0 τ0 σ τ) : ∃ σ' τ', fcY σ (nI f) (nI (4 * f)) = some σ' ∧ fmY τ (nI (6 * l + f)) (nI r) = some τ' ∧ TopX u e n0 g l P0 σ0 τ0 σ' τ' := by
  have hB := h.1
  have hg := hB.2.1.2.2.2.2.2.1
  have h26 := hB.2.1.2.2.2.2.1
  have hf := h.2.2.1.2.2.2.2.2
  have s2 := h.2.1.2.1
  obtain ⟨hl, v1, v2, v3⟩ := v_bd hB hf
  have n13 : ∀ (τx : Wd) (f p : Nat), gI (flM τx f p) 0 13 = nI f := fun τx f p => by unfold flM; rw [gI_uI, if_neg (by omega), gI_s]
  have hB1 := ((hB.wC (c := g + 4) (k := f) (v := -1) (by omega) (fun z => by omega) (fun z => by omega)).wM (c := 17) (k := 6 * l + f) (v := -1) (by unfold okm; omega) (fun z => by omega)).wM (c := 18) (k := 5 * (6 * l + f) + 3) (v := nI (420 * l + s)) (by unfold okm; omega) (fun z => by omega)
  have o1 : ∀ i j, ¬ (i = g + 4 ∧ j = f) → gI (uI σ (g + 4) f (-1)) i j = gI σ i j := fun i j a => by rw [gI_uI, if_neg a]
  have o2 : ∀ i j, ¬ (i = 17 ∧ j = 6 * l + f) → ¬ (i = 18 ∧ j = 5 * (6 * l + f) + 3) → gI (uI (uI τ 17 (6 * l + f) (-1)) 18 (5 * (6 * l + f) + 3) (nI (420 * l + s))) i j = gI τ i j := fun i j a b => by rw [gI_uI, if_neg b, gI_uI, if_neg a]
  have z1 : gI (uI σ (g + 4) f (-1)) (g + 4) f = -1 := gI_s
  have z2 : gI (uI (uI τ 17 (6 * l + f) (-1)) 18 (5 * (6 * l + f) + 3) (nI (420 * l + s))) 17 (6 * l + f) = -1 := by rw [gI_uI, if_neg (by omega), gI_s]
  have z3 : gI (uI (uI τ 17 (6 * l + f) (-1)) 18 (5 * (6 * l + f) + 3) (nI (420 * l + s))) 18 (5 * (6 * l + f) + 3) = nI (420 * l + s) := gI_s
  have h1 : FS u e n0 g l P fl s c f r 3 3 NV NA σ0 τ0 (uI σ (g + 4) f (-1)) (uI (uI τ 17 (6 * l + f) (-1)) 18 (5 * (6 * l + f) + 3) (nI (420 * l + s))) := by
    refine h.upd hB1 (Nat.le_refl _) (fun z => z) (fun i j a1 a2 a3 => o1 i j (fun z => a3 (by omega))) rfl (fun i j a1 a2 a3 => o2 i j (fun z => a2 (by omega)) a3) rfl (fun z => ?_)
    obtain ⟨_, _, gq⟩ := h.2.2.2.2 z
    have q1 := gq.1 (by decide)
    have q2 := gq.2.1 (by decide)
    unfold PQ
    rw [o1 (g + 2) f (fun z => by have := z.1; omega), o1 (g + 3) f (fun z => by have := z.1; omega), o2 15 _ (fun z => absurd z.1 (by decide)) (fun z => absurd z.1 (by decide)), o2 16 _ (fun z => absurd z.1 (by decide)) (fun z => absurd z.1 (by decide))]
    exact ⟨fun _ => q1, fun _ => q2, fun _ => ⟨z1, z2⟩, fun y => absurd y (by decide)⟩
  obtain ⟨st, kd⟩ := b_start hB1
  have is26 := b_is hB1 (k := 26) (by decide)
  have is26 : M_X9_is _ 26 = _ := is26
  have tk := b_take hB1 (k := 26) (by decide) (by decide)
  have tk : M_X3_take _ 106 = _ := tk
  have go := b_goes hB1
  unfold fcY fmY
  simp only [lt_eq]
  rw [h26, chk_pos hg, chk_pos ((ib_nI (by omega)).mpr hf), ix_nI (show f < 2 ^ 31 by omega), chk_pos ((ib_nI (by omega)).mpr v1), ix_nI (show 6 * l + f < 2 ^ 31 by omega), x5 v1, show (3 : Int32) = nI 3 from rfl, nI_add, chk_pos ((ib_nI (by omega)).mpr (by omega)), ix_nI (by omega), show gI (uI τ 17 (6 * l + f) (-1)) 0 33 = nI (420 * l + s) by rw [gI_uI, if_neg (by omega)]; exact s2, kd, bnd1_some, is26, bnd1_some]
  by_cases k26 : kTk u e P = 26
  · rw [k26, if_neg (show ¬ nI (ck 26) ≠ 106 from fun z => z rfl), decide_eq_true (rfl : 26 = 26), if_neg (show ¬ boI true = 0 by decide), tk, if_pos k26, go, bnd1_some, bnd1_some]
    by_cases h4 : P < 400
    · rw [if_pos h4, if_pos h4]
      have h2 := h1.adv (by rw [k26]; decide) h4
      generalize uI (uI σ (g + 4) f (-1)) 6 4 (nI (P + 1)) = σ2 at *
      generalize uI (uI (uI τ 17 (6 * l + f) (-1)) 18 (5 * (6 * l + f) + 3) (nI (420 * l + s))) 0 11 (nI (P + 1)) = τ2 at *
      have y26 := h2.1.2.1.2.2.2.2.1
      have y13 := h2.1.2.2.1.2.2.1
      obtain ⟨t, σx, σ3, v, τx, c1, c2, c3, c4⟩ := fs_cell he h2 (j := 4) (R := 17) (q' := 4) (Or.inr ⟨rfl, rfl, rfl, rfl⟩)
      unfold fcY2 fcY3 fmY2 M_X9_tellForm_J189
      simp only [lt_eq]
      rw [y26, chk_pos hg, c1, bnd2_some, chk_pos ((ib_nI (by omega)).mpr hf), ix_nI (show f < 2 ^ 31 by omega), c2, bnd1_some, show (3 : Int32) = nI 3 from rfl, nI_add, y13, if_pos (show (0 : Int32) ≤ 0 by decide), c3, bnd2_some]
      rcases c4 with ⟨⟨σf, τf, w1, w2, w3, w4, w5, w6⟩, _⟩ | ⟨P', fl', hP', h3⟩
      · obtain ⟨σ4, t1, t2⟩ := F_expr w5 (v := 4 * f + 3) (by omega)
        obtain ⟨σ5, t3, t4⟩ := F_J191 t2
        obtain ⟨τ5, t5, t6⟩ := G_J189 w6 (v := 6 * l + f) (by omega) (nI r) v
        unfold M_X9_tellForm_J189 at t5
        simp only [lt_eq] at t5
        rw [t1, bnd1_some, t3]
        exact ⟨_, _, rfl, t5, Or.inl ⟨σf, τf, w1, w2, w3, w4, t4, t6⟩⟩
      · rw [chk_pos ((ib_nI (by omega)).mpr v1), ix_nI (show 6 * l + f < 2 ^ 31 by omega), x5 v1, nI_add]
        obtain ⟨σ4, τ4, e1, e2, e3⟩ := fs_expr he h3 (by decide)
        rw [e1, bnd1_some, e2, bnd1_some]
        rcases e3 with ⟨σf, τf, w1, w2, w3, w4, w5, w6⟩ | ⟨P'', fl'', s'', hP'', h4⟩
        · obtain ⟨σ5, t3, t4⟩ := F_J191 w5
          obtain ⟨τ5, t5, t6⟩ := G_J199 w6 (v := 6 * l + f) (by omega) (nI r)
          exact ⟨_, _, t3, t5, Or.inl ⟨σf, τf, w1, w2, w3, w4, t4, t6⟩⟩
        · exact fs_Z (by omega) h4 (Or.inr ⟨rfl, rfl⟩) (fun z => absurd z (by decide))
    · rw [if_neg h4, if_neg h4]
      obtain ⟨σf, τf, w1, w2, w3, w4, w5, w6⟩ := hB1.fault (f := 2) (Or.inr rfl)
      obtain ⟨σ5, t3, t4⟩ := F_Y2 w5 hf
      obtain ⟨τ5, t5, t6⟩ := G_Y2 w6 (v := 6 * l + f) (by omega) (nI r)
      exact ⟨_, _, t3, t5, Or.inl ⟨σf, τf, w1, w2, w3, w4, t4, t6⟩⟩
  · rw [if_pos (show nI (ck (kTk u e P)) ≠ 106 from fun z => k26 ((ck_eq kTk_VK.1 (b := 26) (by decide)).mp z)), decide_eq_false k26, if_pos (show boI false = 0 from rfl)]
    exact fs_Z (by omega) h1 (Or.inl ⟨rfl, rfl⟩) (fun _ => z3)
theorem fs_X {P0 : Nat} (he : e ≤ 2000) (hP0 : P0 < P) (h : FS u e n0 g l P fl s c f r 2 1 NV NA σ0 τ0 σ τ) : ∃ σ' τ', fcX σ (nI f) (nI (4 * f)) = some σ' ∧ fmX τ (nI (6 * l + f)) (nI r) = some τ' ∧ TopX u e n0 g l P0 σ0 τ0 σ' τ' := by
  have hB := h.1
  have hg := hB.2.1.2.2.2.2.2.1
  have hf := h.2.2.1.2.2.2.2.2
  obtain ⟨hl, v1, v2, v3⟩ := v_bd hB hf
  have tk := b_take hB (k := 25) (by decide) (by decide)
  have tk : M_X3_take _ 105 = _ := tk
  have mu := b_must hB (k := 25) (by decide)
  have mu : M_X9_must _ 25 = _ := mu
  unfold fcX fmX
  rw [tk, mu, bnd1_some, bnd1_some]
  by_cases k25 : kTk u e P = 25
  · rw [if_pos k25, if_pos k25]
    by_cases h4 : P < 400
    · rw [if_pos h4, if_pos h4]
      have h2 := h.adv (by rw [k25]; decide) h4
      generalize uI σ 6 4 (nI (P + 1)) = σ2 at *
      generalize uI τ 0 11 (nI (P + 1)) = τ2 at *
      have y26 := h2.1.2.1.2.2.2.2.1
      have y13 := h2.1.2.2.1.2.2.1
      obtain ⟨t, σx, σ3, v, τx, c1, c2, c3, c4⟩ := fs_cell he h2 (j := 3) (R := 16) (q' := 2) (Or.inl ⟨rfl, rfl, rfl, rfl⟩)
      unfold fcX2 fcX3 fmX2
      simp only [lt_eq]
      rw [y26, chk_pos hg, c1, bnd2_some, chk_pos ((ib_nI (by omega)).mpr hf), ix_nI (show f < 2 ^ 31 by omega), c2, bnd1_some, show (2 : Int32) = nI 2 from rfl, nI_add, y13, if_pos (show (0 : Int32) ≤ 0 by decide), c3, bnd2_some]
      rcases c4 with ⟨⟨σf, τf, w1, w2, w3, w4, w5, w6⟩, _⟩ | ⟨P', fl', hP', h3⟩
      · obtain ⟨σ4, t1, t2⟩ := F_expr w5 (v := 4 * f + 2) (by omega)
        obtain ⟨σ5, t3, t4⟩ := F_Y t2 hf
        obtain ⟨τ5, t5, t6⟩ := G_J125 w6 (v := 6 * l + f) (by omega) (nI r) v
        rw [t1, bnd1_some, t3]
        exact ⟨_, _, rfl, t5, Or.inl ⟨σf, τf, w1, w2, w3, w4, t4, t6⟩⟩
      · rw [fm_J125]
        simp only [lt_eq]
        rw [chk_pos ((ib_nI (by omega)).mpr v1), ix_nI (show 6 * l + f < 2 ^ 31 by omega), x5 v1, show (2 : Int32) = nI 2 from rfl, nI_add]
        obtain ⟨σ4, τ4, e1, e2, e3⟩ := fs_expr he h3 (by decide)
        rw [e1, bnd1_some, e2, bnd1_some]
        rcases e3 with ⟨σf, τf, w1, w2, w3, w4, w5, w6⟩ | ⟨P'', fl'', s'', hP'', h4⟩
        · obtain ⟨σ5, t3, t4⟩ := F_Y w5 hf
          obtain ⟨τ5, t5, t6⟩ := G_Y w6 (v := 6 * l + f) (by omega) (nI r)
          exact ⟨_, _, t3, t5, Or.inl ⟨σf, τf, w1, w2, w3, w4, t4, t6⟩⟩
        · exact fs_Y he (by omega) h4
    · rw [if_neg h4, if_neg h4]
      obtain ⟨σf, τf, w1, w2, w3, w4, w5, w6⟩ := hB.fault (f := 2) (Or.inr rfl)
      obtain ⟨σ5, t3, t4⟩ := F_X2 w5 hf
      obtain ⟨τ5, t5, t6⟩ := G_X2 w6 (v := 6 * l + f) (by omega) (nI r)
      exact ⟨_, _, t3, t5, Or.inl ⟨σf, τf, w1, w2, w3, w4, t4, t6⟩⟩
  · rw [if_neg k25, if_neg k25]
    obtain ⟨σf, τf, w1, w2, w3, w4, w5, w6⟩ := hB.fault (f := 1) (Or.inl rfl)
    obtain ⟨σ5, t3, t4⟩ := F_X2 w5 hf
    obtain ⟨τ5, t5, t6⟩ := G_X2 w6 (v := 6 * l + f) (by omega) (nI r)
    exact ⟨_, _, t3, t5, Or.inl ⟨σf, τf, w1, w2, w3, w4, t4, t6⟩⟩
/-- behind the sign of what is needed -/
theorem fs_W2 {P0 kk : Nat} (he : e ≤ 2000) (hP0 : P0 < P) (h : FS u e n0 g l P fl s c f r 1 1 NV NA σ0 τ0 σ τ) (hkk : kk = 13 ∨ kk = 5) : ∃ σ' τ', M_X3_tellForm_J97 σ (nI f) (nI (4 * f)) (nI (ck kk)) = some σ' ∧ (if kTk u e P = kk then M_X9_tellForm_J79 τ (nI (6 * l + f)) (nI r) else M_X9_tellForm_J79 (flM τ 1 (sq u e P)) (nI (6 * l + f)) (nI r)) = some τ' ∧ TopX u e n0 g l P0 σ0 τ0 σ' τ' := by
  have hB := h.1
  have hf := h.2.2.1.2.2.2.2.2
  have h13 := hB.2.2.1.2.2.1
  obtain ⟨hl, v1, v2, v3⟩ := v_bd hB hf
  have tk := b_take hB (k := kk) (by unfold VK; omega) (by omega)
  rw [fc_J97, tk, bnd1_some]
  by_cases kq : kTk u e P = kk
  · rw [if_pos kq, if_pos kq]
    unfold M_X9_tellForm_J79
    rw [h13, if_neg z00, b_goes hB, bnd1_some]
    by_cases h4 : P < 400
    · rw [if_pos h4, if_pos h4]
      have h2 := h.adv (by omega) h4
      obtain ⟨σ4, τ4, e1, e2, e3⟩ := fs_expr he h2 (by decide)
      rw [nI_1, e1, bnd1_some, fm_J90, x5 v1, nI_1, e2, bnd1_some]
      rcases e3 with ⟨σf, τf, w1, w2, w3, w4, w5, w6⟩ | ⟨P'', fl'', s'', hP'', h4⟩
      · obtain ⟨σ5, t3, t4⟩ := F_X w5 hf
        obtain ⟨τ5, t5, t6⟩ := G_X w6 (v := 6 * l + f) (by omega) (nI r)
        exact ⟨_, _, t3, t5, Or.inl ⟨σf, τf, w1, w2, w3, w4, t4, t6⟩⟩
      · exact fs_X he (by omega) h4
    · rw [if_neg h4, if_neg h4]
      obtain ⟨σf, τf, w1, w2, w3, w4, w5, w6⟩ := hB.fault (f := 2) (Or.inr rfl)
      obtain ⟨σ4, t1, t2⟩ := F_expr w5 (v := 4 * f + 1) (by omega)
      obtain ⟨σ5, t3, t4⟩ := F_X t2 hf
      obtain ⟨τ5, t5, t6⟩ := G_J90 w6 (v := 6 * l + f) (by omega) (nI r)
      rw [nI_1, t1, bnd1_some]
      exact ⟨_, _, t3, t5, Or.inl ⟨σf, τf, w1, w2, w3, w4, t4, t6⟩⟩
  · rw [if_neg kq, if_neg kq]
    obtain ⟨σf, τf, w1, w2, w3, w4, w5, w6⟩ := hB.fault (f := 1) (Or.inl rfl)
    obtain ⟨σ4, t1, t2⟩ := F_expr w5 (v := 4 * f + 1) (by omega)
    obtain ⟨σ5, t3, t4⟩ := F_X t2 hf
    obtain ⟨τ5, t5, t6⟩ := G_J79 w6 (v := 6 * l + f) (by omega) (nI r)
    rw [nI_1, t1, bnd1_some]
    exact ⟨_, _, t3, t5, Or.inl ⟨σf, τf, w1, w2, w3, w4, t4, t6⟩⟩
theorem fs_W {P0 : Nat} (he : e ≤ 2000) (hP0 : P0 < P) (h : FS u e n0 g l P fl s c f r 1 0 NV NA σ0 τ0 σ τ) : ∃ σ' τ', fcW σ (nI f) (nI (4 * f)) = some σ' ∧ fmW τ (nI (6 * l + f)) (nI r) = some τ' ∧ TopX u e n0 g l P0 σ0 τ0 σ' τ' := by
  have hB := h.1
  have hg := hB.2.1.2.2.2.2.2.1
  have h26 := hB.2.1.2.2.2.2.1
  have hf := h.2.2.1.2.2.2.2.2
  obtain ⟨hl, v1, v2, v3⟩ := v_bd hB hf
  obtain ⟨st, kd⟩ := b_start hB
  have is13 := b_is hB (k := 13) (by decide)
  have is13 : M_X9_is _ 13 = _ := is13
  have key : ∀ (L : Nat) (x y : Int32) (kk : Nat), kk = 13 ∨ kk = 5 → L ≤ 1 → x = nI L → y = (if L = 1 then 13 else 5) → ∃ σ' τ', M_X3_tellForm_J97 (uI σ (g + 2) f x) (nI f) (nI (4 * f)) (nI (ck kk)) = some σ' ∧ (if kTk u e P = kk then M_X9_tellForm_J79 (uI τ 15 (6 * l + f) y) (nI (6 * l + f)) (nI r) else M_X9_tellForm_J79 (flM (uI τ 15 (6 * l + f) y) 1 (sq u e P)) (nI (6 * l + f)) (nI r)) = some τ' ∧ TopX u e n0 g l P0 σ0 τ0 σ' τ' := fun L x y kk hkk hL hx hy => by
    have hB1 := (hB.wC (c := g + 2) (k := f) (v := x) (by omega) (fun z => by omega) (fun z => by omega)).wM (c := 15) (k := 6 * l + f) (v := y) (by unfold okm; omega) (fun z => by omega)
    have z1 : gI (uI σ (g + 2) f x) (g + 2) f = nI L := gI_s.trans hx
    have z2 : gI (uI τ 15 (6 * l + f) y) 15 (6 * l + f) = (if L = 1 then 13 else 5) := gI_s.trans hy
    refine fs_W2 he hP0 (h.upd hB1 (Nat.le_refl _) (fun z => z) (fun i j a1 a2 a3 => ?_) rfl (fun i j a1 a2 a3 => ?_) rfl (fun _ => ⟨fun _ => ⟨L, hL, z1, z2⟩, fun z => absurd z (by decide), fun z => absurd z (by decide), fun z => absurd z (by decide)⟩)) hkk
    · rw [gI_uI, if_neg (fun z => a3 (by omega))]
    · rw [gI_uI, if_neg (fun z => a2 (by omega))]
  have hBy : ∀ y, Bs u e n0 g l P fl 0 σ0 τ0 σ (uI τ 15 (6 * l + f) y) := fun y => hB.wM (by unfold okm; omega) (fun z => by omega)
  unfold fcW fmW M_X3_tellForm_J76 M_X9_tellForm_J56
  simp only [lt_eq]
  rw [h26, chk_pos hg, kd, bnd1_some, is13, bnd1_some, chk_pos ((ib_nI (by omega)).mpr hf), chk_pos ((ib_nI (by omega)).mpr hf), ix_nI (show f < 2 ^ 31 by omega), chk_pos ((ib_nI (by omega)).mpr v1), chk_pos ((ib_nI (by omega)).mpr v1), ix_nI (show 6 * l + f < 2 ^ 31 by omega)]
  have j13 : ∀ y, M_X9_is (uI τ 15 (6 * l + f) y) 13 = some (boI (decide (kTk u e P = 13))) := fun y => b_is (hBy y) (k := 13) (by decide)
  have j5 : ∀ y, M_X9_is (uI τ 15 (6 * l + f) y) 5 = some (boI (decide (kTk u e P = 5))) := fun y => b_is (hBy y) (k := 5) (by decide)
  have jf : ∀ y, M_X9_fail (uI τ 15 (6 * l + f) y) 1 = some (flM (uI τ 15 (6 * l + f) y) 1 (sq u e P)) := fun y => (b_fail (hBy y) (f := 1) (Or.inl rfl)).2
  have nar0 : vp_nar .boolean (0 : Int32) = 0 := by decide
  have nar1 : vp_nar .boolean (1 : Int32) = 1 := by decide
  rw [nar0, nar1, j13, j13, j5, j5, jf, jf]
  simp only [bnd1_some]
  by_cases k13 : kTk u e P = 13
  · rw [k13, if_neg (show ¬ nI (ck 13) ≠ 60 from fun z => z rfl), decide_eq_true (rfl : 13 = 13), if_neg (show ¬ boI true = 0 by decide), if_pos (show boI true ≠ 0 by decide)]
    rw [show gR (uI σ (g + 2) f 1) 2 6 = g from h26, chk_pos hg, show gI (uI σ (g + 2) f 1) (g + 2) f = 1 from gI_s, if_neg (show ¬ (1 : Int32) = 0 by decide)]
    have := key 1 1 13 13 (Or.inl rfl) (Nat.le_refl _) rfl rfl
    rw [if_pos k13] at this
    rw [chk_pos ((ib_nI (by omega)).mpr hf), chk_pos ((ib_nI (by omega)).mpr hf)]
    exact this
  · rw [if_pos (show nI (ck (kTk u e P)) ≠ 60 from fun z => k13 ((ck_eq kTk_VK.1 (b := 13) (by decide)).mp z)), decide_eq_false k13, if_pos (show boI false = 0 from rfl), if_neg (show ¬ boI false ≠ 0 by decide)]
    rw [show gR (uI σ (g + 2) f 0) 2 6 = g from h26, chk_pos hg, show gI (uI σ (g + 2) f 0) (g + 2) f = 0 from gI_s, if_pos rfl]
    have := key 0 0 5 5 (Or.inr rfl) (Nat.zero_le _) rfl rfl
    by_cases k5 : kTk u e P = 5
    · rw [if_pos k5] at this
      rw [decide_eq_true k5, if_pos (show boI true ≠ 0 by decide)]
      exact this
    · rw [if_neg k5] at this
      rw [decide_eq_false k5, if_neg (show ¬ boI false ≠ 0 by decide)]
      exact this
end FW
