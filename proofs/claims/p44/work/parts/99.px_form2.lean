/-! a form told, whole -/
def mfT (τ : Wd) : Option Wd := chk (ib (gI τ 0 19) 2) (bnd1 (M_X9_roomFor τ (gI τ 14 (ix (gI τ 0 19))) (6 : Int32)) fun s_133 => if (gI s_133 0 13) ≠ 0 then (some s_133) else (bnd1 (M_X9_tellForm s_133) fun s_144 => some s_144))
theorem Tw_eq {g l s c f : Nat} {σ τ σ' τ' : Wd} (h : Tw g l s c f σ τ) (hl : l < 2) (hs4 : s ≤ 400) (e1 : ∀ i k, g ≤ i → i ≤ g + 8 → gI σ' i k = gI σ i k) (e2 : ∀ i k, 10 ≤ i → i ≤ 21 → gI τ' i k = gI τ i k) : Tw g l s c f σ' τ' := by
  obtain ⟨T, t1, t2, t3⟩ := h
  exact ⟨T, TCs_eq t1 (Nat.le_refl _) hs4 (fun j _ => e1 g j (by omega) (by omega)) (fun j _ => e1 _ j (by omega) (by omega)) (fun j _ => ⟨e1 _ j (by omega) (by omega), e1 _ j (by omega) (by omega), e1 _ j (by omega) (by omega)⟩) (fun j _ => ⟨e1 _ j (by omega) (by omega), e1 _ j (by omega) (by omega)⟩) (fun j _ => ⟨e1 _ j (by omega) (by omega), e1 _ j (by omega) (by omega)⟩), TMs_eq t2 (Nat.le_refl _) hs4 hl (fun c hc => e2 c l (by omega) (by omega)) (fun j _ => e2 _ _ (by omega) (by omega)) (fun j _ => ⟨e2 _ _ (by omega) (by omega), e2 _ _ (by omega) (by omega), e2 _ _ (by omega) (by omega)⟩) (fun j _ => e2 _ _ (by omega) (by omega)) (fun j _ => ⟨e2 _ _ (by omega) (by omega), e2 _ _ (by omega) (by omega)⟩), t3⟩
section FW2
variable {u : Nat → Nat} {e n0 g l P fl s c f : Nat} {NV NA : Nat → Nat} {σ0 τ0 σ τ : Wd}
/-- from the name on -/
theorem fs_V {P0 r : Nat} (he : e ≤ 2000) (hP0 : P0 < P) (h : FS u e n0 g l P fl s c f r 0 0 NV NA σ0 τ0 σ τ) : ∃ σ' τ', fcV3 σ (nI f) (nI (4 * f)) = some σ' ∧ fmV τ (nI (6 * l + f)) (nI r) = some τ' ∧ TopX u e n0 g l P0 σ0 τ0 σ' τ' := by
  have hB := h.1
  have hf := h.2.2.1.2.2.2.2.2
  obtain ⟨hl, v1, v2, v3⟩ := v_bd hB hf
  have tk := b_take hB (k := 24) (by decide) (by decide)
  have tk : M_X3_take _ 104 = _ := tk
  have mu := b_must hB (k := 24) (by decide)
  have mu : M_X9_must _ 24 = _ := mu
  unfold fcV3 fmV
  rw [tk, mu, bnd1_some, bnd1_some]
  by_cases k24 : kTk u e P = 24
  · rw [if_pos k24, if_pos k24]
    by_cases h4 : P < 400
    · rw [if_pos h4, if_pos h4]
      have h2 := h.adv (by rw [k24]; decide) h4
      obtain ⟨σ4, τ4, e1, e2, e3⟩ := fs_expr he h2 (by decide)
      unfold fcV4 fmV2
      rw [x5 v1, show M_X3_takeExpression (uI σ 6 4 (nI (P + 1))) (nI (4 * f)) = some σ4 from e1, bnd1_some, show M_X9_termTold (uI τ 0 11 (nI (P + 1))) (nI (5 * (6 * l + f))) = some τ4 from e2, bnd1_some]
      rcases e3 with ⟨σf, τf, w1, w2, w3, w4, w5, w6⟩ | ⟨P'', fl'', s'', hP'', h4⟩
      · obtain ⟨σ5, t3, t4⟩ := F_W w5 hf
        obtain ⟨τ5, t5, t6⟩ := G_W w6 (v := 6 * l + f) (by omega) (nI r)
        exact ⟨_, _, t3, t5, Or.inl ⟨σf, τf, w1, w2, w3, w4, t4, t6⟩⟩
      · exact fs_W he (by omega) h4
    · rw [if_neg h4, if_neg h4]
      obtain ⟨σf, τf, w1, w2, w3, w4, w5, w6⟩ := hB.fault (f := 2) (Or.inr rfl)
      obtain ⟨σ5, t3, t4⟩ := F_V4 w5 hf
      obtain ⟨τ5, t5, t6⟩ := G_V2 w6 (v := 6 * l + f) (by omega) (nI r)
      exact ⟨_, _, t3, t5, Or.inl ⟨σf, τf, w1, w2, w3, w4, t4, t6⟩⟩
  · rw [if_neg k24, if_neg k24]
    obtain ⟨σf, τf, w1, w2, w3, w4, w5, w6⟩ := hB.fault (f := 1) (Or.inl rfl)
    obtain ⟨σ5, t3, t4⟩ := F_V4 w5 hf
    obtain ⟨τ5, t5, t6⟩ := G_V2 w6 (v := 6 * l + f) (by omega) (nI r)
    exact ⟨_, _, t3, t5, Or.inl ⟨σf, τf, w1, w2, w3, w4, t4, t6⟩⟩
theorem top_form (he : e ≤ 2000) (h : Top u e n0 g l P fl s c f NV NA σ0 τ0 σ τ) (hk : kTk u e P = 23) : ∃ σ' τ', M_X3_tellForm σ = some σ' ∧ mfT τ = some τ' ∧ TopX u e n0 g l P σ0 τ0 σ' τ' := by
  obtain ⟨hB, ⟨s1, s2, s3, s4⟩, ⟨d1, d2, d3, d4, d5, d6⟩, hN, hT⟩ := h
  have hg := hB.2.1.2.2.2.2.2.1
  have hl := hB.2.2.1.2.2.2.2.1
  have h19 := hB.2.2.1.2.2.2.1
  have h26 := hB.2.1.2.2.2.2.1
  have hP := hB.1.2.1
  have h13 := hB.2.2.1.2.2.1
  have f2 := b_fail hB (f := 2) (Or.inr rfl)
  have f2 : M_X3_fail σ 2 = _ ∧ M_X9_fail τ 2 = _ := f2
  have n13 : ∀ (τx : Wd) (f p : Nat), gI (flM τx f p) 0 13 = nI f := fun τx f p => by unfold flM; rw [gI_uI, if_neg (by omega), gI_s]
  unfold mfT M_X9_roomFor M_X9_roomFor_J10
  simp only [fc_form, fm_form, lt_eq]
  rw [h26, chk_pos hg, d2, h19, chk_pos ((ib_nI (by omega)).mpr hl), ix_nI (show l < 2 ^ 31 by omega), d4, h13, f2.1, f2.2, bnd1_some]
  by_cases hf : f < 6
  · rw [if_pos (show nI f < 6 from (nI_ltI (b := 6) (by omega) (by omega)).mpr hf), if_pos (show nI f ≠ 6 from fun z => by have := (nI_eq (b := 6) (by omega) (by omega)).mp z; omega), if_neg z00]
    have tk := b_take hB (k := 23) (by decide) (by decide)
    have tk : M_X3_take σ 103 = _ := tk
    rw [if_pos hk] at tk
    rw [tk, b_goes hB, bnd1_some, bnd1_some, bnd1_some, show nI f * 4 = nI (4 * f) by rw [show (4 : Int32) = nI 4 from rfl, pk_mul, Nat.mul_comm]]
    by_cases h4 : P < 400
    · rw [if_pos h4, if_pos h4, show gI (uI τ 0 11 (nI (P + 1))) 0 13 = 0 by rw [gI_uI, if_neg (by omega)]; exact h13, if_neg z00]
      have hB1 := hB.adv (by rw [hk]; decide) h4
      have hN1 : Nm (c + f) (c + f) c fl NV NA (uI σ 6 4 (nI (P + 1))) (uI τ 0 11 (nI (P + 1))) := Nm_eq (σ' := uI σ 6 4 (nI (P + 1))) (τ' := uI τ 0 11 (nI (P + 1))) hN (by rw [gI_uI, if_neg (by omega)]) (by rw [gI_uI, if_neg (by omega)]) rfl (funext fun k => by show gI (uI σ 6 4 (nI (P + 1))) 4 k = _; rw [gI_uI, if_neg (by omega)]; rfl) rfl (funext fun k => by show gI (uI τ 0 11 (nI (P + 1))) 9 k = _; rw [gI_uI, if_neg (by omega)]; rfl) (fun z => z)
      have hP1 := hB1.1.2.1
      have q1 : ∀ i j, ¬ (i = 6 ∧ j = 4) → gI (uI σ 6 4 (nI (P + 1))) i j = gI σ i j := fun i j a => by rw [gI_uI, if_neg a]
      have q2 : ∀ i j, ¬ (i = 0 ∧ j = 11) → gI (uI τ 0 11 (nI (P + 1))) i j = gI τ i j := fun i j a => by rw [gI_uI, if_neg a]
      have q3 : (uI σ 6 4 (nI (P + 1))).2 = σ.2 := rfl
      have q4 : (uI τ 0 11 (nI (P + 1))).2 = τ.2 := rfl
      generalize uI σ 6 4 (nI (P + 1)) = σ1 at *
      generalize uI τ 0 11 (nI (P + 1)) = τ1 at *
      rw [(q2 0 19 (by omega)).trans h19, chk_pos ((ib_nI (by omega)).mpr hl), ix_nI (show l < 2 ^ 31 by omega), (q2 14 l (by omega)).trans d4, show (6 : Int32) = nI 6 from rfl, pk_mul, nI_add]
      unfold fcV fcV2
      by_cases hk1 : kTk u e (P + 1) = 1
      · obtain ⟨fl', σa, τa, k1, k2, k3, k4, k5, k6⟩ := b_named hB1 he hN1 (by omega) hk1 (-1)
        have hx := (hB1.row.2.2.1 hk1).2
        have hx6 := hB1.row.2.2.2.2.2.2.1 hk1
        generalize vTk u e (P + 1) = x at *
        have k3' := k3.kp (m := c + f) (x := x) (a := -1)
        have ta := b_take k3' (k := 1) (by decide) (by decide)
        have ta : M_X3_take _ 2 = _ := ta
        rw [if_pos hk1] at ta
        rw [k1, bnd1_some, ta, bnd1_some, k2, bnd2_some]
        by_cases h5 : P + 1 < 400
        · rw [if_pos h5, if_pos h5]
          have hB2 := k3'.adv (by rw [hk1]; decide) h5
          have hC : ∀ i k, ¬ (i = 2 ∧ (k = 3 ∨ k = 9 ∨ k = 10)) → i ≠ 4 → ¬ (i = 6 ∧ k = 4) → gI (uI (kpN σa (c + f) x (-1)) 6 4 (nI (P + 1 + 1))) i k = gI σ i k := fun i k a1 a2 a3 => by
            unfold kpN
            rw [gI_uI, if_neg a3, gI_uI, if_neg (by omega), gI_uI, if_neg (by omega), gI_uL, k5.1 i k (by omega), q1 i k a3]
          have hM : ∀ i k, ¬ (i = 0 ∧ (k = 11 ∨ k = 15 ∨ k = 16)) → gI (uI τa 0 11 (nI (P + 1 + 1))) i k = gI τ i k := fun i k h1 => by
            rw [gI_uI, if_neg (by omega), k6.1 i k (by omega), q2 i k (by omega)]
          have hML : (uI τa 0 11 (nI (P + 1 + 1))).2 = τ.2 := by
            show τa.2 = _
            rw [k6.2, q4]
          have hCL : ∀ k, gL (uI (kpN σa (c + f) x (-1)) 6 4 (nI (P + 1 + 1))) 3 k = if k = c + f then lN (cv 8 x) else gL σ 3 k := fun k => by
            show gL (uL σa 3 (c + f) (lN (cv 8 x))) 3 k = _
            rw [gL_uL]
            by_cases q : k = c + f
            · rw [if_pos ⟨rfl, q⟩, if_pos q]
            · rw [if_neg (fun z => q z.2), if_neg q]
              show σa.2.1 3 k = _
              rw [k5.2, q3]
              rfl
          have hC4 : ∀ k, gI (uI (kpN σa (c + f) x (-1)) 6 4 (nI (P + 1 + 1))) 4 k = if k = c + f then -1 else gI σ 4 k := fun k => by
            unfold kpN
            rw [gI_uI, if_neg (by omega), gI_uI, if_neg (by omega), gI_uI]
            by_cases q : k = c + f
            · rw [if_pos ⟨rfl, q⟩, if_pos q]
            · rw [if_neg (fun z => q z.2), if_neg q, gI_uL, k5.1 4 k (by omega), q1 4 k (by omega)]
          have hC23 : gI (uI (kpN σa (c + f) x (-1)) 6 4 (nI (P + 1 + 1))) 2 3 = nI (c + f + 1) := by
            unfold kpN
            rw [gI_uI, if_neg (by omega), gI_s]
          generalize uI (kpN σa (c + f) x (-1)) 6 4 (nI (P + 1 + 1)) = σ2 at *
          generalize uI τa 0 11 (nI (P + 1 + 1)) = τ2 at *
          have hg13 : ∀ k, gI σ2 g k = gI σ g k := fun k => hC g k (by omega) (by omega) (by omega)
          have hgi : ∀ i k, g ≤ i → gI σ2 i k = gI σ i k := fun i k hi => hC i k (by omega) (by omega) (by omega)
          have hFS : FS u e n0 g l (P + 1 + 1) fl' s c f (P + 1) 0 0 (fun i => if i = c + f then x else NV i) (fun i => if i = c + f then 10 + f else NA i) σ0 τ0 σ2 τ2 := by
            refine ⟨hB2, ⟨(hg13 13).trans s1, (hM 0 33 (by omega)).trans s2, (hM 0 12 (by omega)).trans s3, by omega⟩, ⟨(hg13 3).trans d1, (hg13 4).trans d2, (hM 12 l (by omega)).trans d3, (hM 14 l (by omega)).trans d4, d5, hf⟩, ⟨?_, ?_, by omega, ?_⟩, fun z => ⟨?_, fun p hp => absurd hp (Nat.not_lt_zero p), fun y => absurd y (by decide), fun y => absurd y (by decide), fun y => absurd y (by decide), fun y => absurd y (by decide)⟩⟩
            · obtain ⟨a1, a2, a3, a4, a5, a6, a7, a8, a9⟩ := hN
              refine ⟨hC23, (hM 0 20 (by omega)).trans a2, by omega, by omega, fun i hi => ?_, fun i hi => ?_, fun i h1 h2 => ?_, a8, fun z i j hi hj => ?_⟩
              · rw [hCL i, hC4 i]
                show (if i = c + f then lN (cv 8 x) else gL σ 3 i) = lN (cv 8 (if i = c + f then x else NV i)) ∧ (if i = c + f then x else NV i) < 27 ^ 8 ∧ (if i = c + f then (-1 : Int32) else gI σ 4 i) = (if (if i = c + f then 10 + f else NA i) < 10 then nI (if i = c + f then 10 + f else NA i) else -1) ∧ ((if i = c + f then 10 + f else NA i) < c ∨ 10 ≤ (if i = c + f then 10 + f else NA i) ∧ (if i = c + f then 10 + f else NA i) < 20)
                by_cases q : i = c + f
                · rw [if_pos q, if_pos q, if_pos q, if_pos q, if_neg (by omega)]
                  exact ⟨rfl, hx, rfl, Or.inr ⟨by omega, by omega⟩⟩
                · rw [if_neg q, if_neg q, if_neg q, if_neg q]
                  exact a5 i (by omega)
              · show τ2.2.1 8 i = lN (if i = c + f then x else NV i) ∧ gI τ2 9 i = nI (if i = c + f then 10 + f else NA i)
                rw [hML, hM 9 i (by omega), if_neg (by omega), if_neg (by omega)]
                exact a6 i hi
              · show 10 ≤ (if i = c + f then 10 + f else NA i)
                rw [if_pos (by omega)]
                omega
              · obtain ⟨z1, z2⟩ := k4 z
                show (if i = c + f then x else NV i) = (if j = c + f then x else NV j) → i = j
                by_cases q : i = c + f
                · by_cases q' : j = c + f
                  · omega
                  · rw [if_pos q, if_neg q']
                    exact fun y => absurd y.symm (z2 j (by omega))
                · by_cases q' : j = c + f
                  · rw [if_neg q, if_pos q']
                    exact fun y => absurd y (z2 i (by omega))
                  · rw [if_neg q, if_neg q']
                    exact a9 z1 i j (by omega) (by omega)
            · show (if c + f = c + f then 10 + f else NA (c + f)) = 10 + f
              rw [if_pos rfl]
            · show τ2.2.1 6 (P + 1) = lN (if c + f = c + f then x else NV (c + f))
              rw [if_pos rfl, hML, ← q4]
              exact hx6
            · exact Tw_eq (hT (k4 z).1) hl (by omega) (fun i k h1 h2 => hgi i k h1) (fun i k h1 h2 => hM i k (by omega))
          obtain ⟨σ', τ', t1, t2, t3⟩ := fs_V he (P0 := P) (by omega) hFS
          rw [t1, t2, bnd1_some]
          exact ⟨_, _, rfl, rfl, t3⟩
        · rw [if_neg h5, if_neg h5]
          obtain ⟨σf, τf, z1, z2, z3, z4, z5, z6⟩ := FLT_mk k3' hB1 (f := 2) (Or.inr rfl)
          obtain ⟨σ', t1, t2⟩ := F_V3 z5 hf
          obtain ⟨τ', t3, t4⟩ := G_V z6 (v := 6 * l + f) (by omega) (nI (P + 1))
          rw [t1, t3, bnd1_some]
          exact ⟨_, _, rfl, rfl, Or.inl ⟨σf, τf, z1, z2, z3, z4, t2, t4⟩⟩
      · obtain ⟨k1, k2, k3⟩ := b_unnamed hB1 hk1 (-1)
        obtain ⟨σf, τf, z1, z2, z3, z4, z5, z6⟩ := hB1.fault (f := 1) (Or.inl rfl)
        obtain ⟨σ', t1, t2⟩ := F_V3 z5 hf
        obtain ⟨τ', t3, t4⟩ := G_V z6 (v := 6 * l + f) (by omega) (nI (P + 1))
        rw [k1, bnd1_some, k2, bnd1_some, k3, bnd2_some, t1, t3, bnd1_some]
        exact ⟨_, _, rfl, rfl, Or.inl ⟨σf, τf, z1, z2, z3, z4, t2, t4⟩⟩
    · rw [if_neg h4, if_neg h4, n13, if_pos (show nI 2 ≠ 0 by decide)]
      obtain ⟨σf, τf, z1, z2, z3, z4, z5, z6⟩ := hB.fault (f := 2) (Or.inr rfl)
      obtain ⟨σ', t1, t2⟩ := F_V z5 hf
      exact ⟨_, _, t1, rfl, Or.inl ⟨σf, τf, z1, z2, z3, z4, t2, z6⟩⟩
  · rw [if_neg (show ¬ nI f < 6 from fun z => hf ((nI_ltI (b := 6) (by omega) (by omega)).mp z)), if_neg (show ¬ nI f ≠ 6 from fun z => z (by rw [show f = 6 by omega]; rfl)), bnd1_some, n13, if_pos (show nI 2 ≠ 0 by decide), bnd1_some, n13, if_pos (show nI 2 ≠ 0 by decide)]
    exact ⟨_, _, rfl, rfl, Or.inl (hB.fault (Or.inr rfl))⟩
end FW2
