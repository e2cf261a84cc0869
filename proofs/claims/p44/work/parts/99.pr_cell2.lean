/-! a cell told, on both sides -/
def mcT (τ : Wd) : Option Wd := chk (ib (gI τ 0 19) 2) (bnd1 (M_X9_roomFor τ (gI τ 12 (ix (gI τ 0 19))) (6 : Int32)) fun s_104 => if (gI s_104 0 13) ≠ 0 then (some s_104) else (bnd1 (M_X9_tellCell s_104) fun s_115 => some s_115))
/-- a cell more -/
def ceT (T : Td) (v : Int32) : Td := (fun a b => if a = 3 ∧ b = 0 then tC T + 1 else T.1 a b, fun i => if i = tC T then v else T.2.1 i, T.2.2)
theorem Tw_cell {g l s s' c f : Nat} {v : Int32} {σ τ σ' τ' : Wd} (h : Tw g l s c f σ τ) (hs : s ≤ s') (hc : c < 6) (h1 : gI σ' g 3 = nI (c + 1)) (h2 : gI σ' (g + 1) c = v) (m1 : gI τ' 12 l = nI (c + 1)) (m2 : gI τ' 13 (6 * l + c) = v) (e1 : ∀ i k, g ≤ i → i ≤ g + 8 → ¬ (i = g ∧ (k = 3 ∨ k = 13)) → ¬ (i = g + 1 ∧ k = c) → gI σ' i k = gI σ i k) (e2 : ∀ i k, 10 ≤ i → i ≤ 21 → ¬ (i = 12 ∧ k = l) → ¬ (i = 13 ∧ k = 6 * l + c) → gI τ' i k = gI τ i k) : Tw g l s' (c + 1) f σ' τ' := by
  obtain ⟨T, ⟨⟨⟨a1, a2, a3, a4, a5⟩, b, cc⟩, d⟩, ⟨⟨⟨x1, x2, x3, x4, x5⟩, y, zz⟩, w⟩, t3, t4, t5, t6, t7, t8, t9⟩ := h
  subst t3
  have en : ∀ i, 2 ≤ i → i ≤ 8 → gI σ' (g + i) = gI σ (g + i) := fun i h1 h8 => funext fun k => e1 (g + i) k (by omega) (by omega) (fun z => by omega) (fun z => by omega)
  have em : ∀ i, 14 ≤ i → i ≤ 21 → gI τ' i = gI τ i := fun i h1 h8 => funext fun k => e2 i k (by omega) (by omega) (fun z => by omega) (fun z => by omega)
  have e0 : ∀ k, k ≠ 3 → k ≠ 13 → gI σ' g k = gI σ g k := fun k h k2 => e1 g k (by omega) (by omega) (fun z => by omega) (fun z => by omega)
  have f0 : ∀ i, 10 ≤ i → i ≤ 21 → i ≠ 12 → i ≠ 13 → gI τ' i l = gI τ i l := fun i p1 p2 p3 p4 => e2 i l p1 p2 (fun z => p3 z.1) (fun z => p4 z.1)
  have c' : ∀ f, f < tF T → gI σ' (g + 2) f = nI (tL T f) ∧ gI σ' (g + 3) f = nI (tT T f) ∧ gI σ' (g + 4) f = (if tE T f = 0 then -1 else nI (tE T f - 1)) ∧ ∀ p, p < 4 → (p < 3 ∨ tE T f ≠ 0) → ∃ a, gI σ' (g + 5) (4 * f + p) = nI a ∧ gI σ' (g + 6) (4 * f + p) = nI (a + (tX T f p).length) ∧ a + (tX T f p).length ≤ 400 ∧ CC (tX T f p) a (gI σ' (g + 7)) (gI σ' (g + 8)) := by
    rw [en 2 (by omega) (by omega), en 3 (by omega) (by omega), en 4 (by omega) (by omega), en 5 (by omega) (by omega), en 6 (by omega) (by omega), en 7 (by omega) (by omega), en 8 (by omega) (by omega)]
    exact cc
  have d' : ∀ f, f < tF T → ∀ p, p < 4 → (p < 3 ∨ tE T f ≠ 0) → ∃ b, b ≤ s' ∧ gI σ' (g + 6) (4 * f + p) = nI b := by
    rw [en 6 (by omega) (by omega)]
    intro f hf p hp hq
    obtain ⟨b, b1, b2⟩ := d f hf p hp hq
    exact ⟨b, by omega, b2⟩
  have z' : ∀ f, f < tF T → gI τ' 15 (6 * l + f) = (if tL T f = 1 then 13 else 5) ∧ gI τ' 16 (6 * l + f) = nI (tT T f) ∧ gI τ' 17 (6 * l + f) = (if tE T f = 0 then -1 else nI (tE T f - 1)) ∧ ∀ p, p < 4 → (p < 3 ∨ tE T f ≠ 0) → ∃ a, gI τ' 18 (5 * (6 * l + f) + p) = nI a ∧ gI τ' 18 (5 * (6 * l + f) + p + 1) = nI (a + (tX T f p).length) ∧ (a + (tX T f p).length ≤ 840 ∧ 420 * l ≤ a ∧ a + (tX T f p).length ≤ 420 * l + 420) ∧ CM (tX T f p) a (gI τ' 20) (gI τ' 21) := by
    rw [em 15 (by omega) (by omega), em 16 (by omega) (by omega), em 17 (by omega) (by omega), em 18 (by omega) (by omega), em 20 (by omega) (by omega), em 21 (by omega) (by omega)]
    exact zz
  have w' : ∀ f, f < tF T → ∀ p, p < 4 → (p < 3 ∨ tE T f ≠ 0) → ∃ b, b ≤ 420 * l + s' ∧ gI τ' 18 (5 * (6 * l + f) + p + 1) = nI b := by
    rw [em 18 (by omega) (by omega)]
    intro f hf p hp hq
    obtain ⟨b, b1, b2⟩ := w f hf p hp hq
    exact ⟨b, by omega, b2⟩
  have hb : ∀ i, i < tC T + 1 → gI σ' (g + 1) i = (if i = tC T then v else tI T i) := fun i hi => by
    by_cases q : i = tC T
    · rw [if_pos q, q]; exact h2
    · rw [if_neg q, e1 (g + 1) i (by omega) (by omega) (fun z => by omega) (fun z => q z.2)]
      exact b i (by omega)
  have hy : ∀ i, i < tC T + 1 → gI τ' 13 (6 * l + i) = (if i = tC T then v else tI T i) := fun i hi => by
    by_cases q : i = tC T
    · rw [if_pos q, q]; exact m2
    · rw [if_neg q, e2 13 (6 * l + i) (by omega) (by omega) (fun z => by omega) (fun z => q (by omega))]
      exact y i (by omega)
  refine ⟨ceT T v, ⟨⟨⟨(e0 0 (by omega) (by omega)).trans a1, (e0 1 (by omega) (by omega)).trans a2, (e0 2 (by omega) (by omega)).trans a3, h1, (e0 4 (by omega) (by omega)).trans a5⟩, hb, c'⟩, d'⟩, ⟨⟨⟨(f0 10 (by omega) (by omega) (by omega) (by omega)).trans x1, (f0 11 (by omega) (by omega) (by omega) (by omega)).trans x2, (f0 19 (by omega) (by omega) (by omega) (by omega)).trans x3, m1, (f0 14 (by omega) (by omega) (by omega) (by omega)).trans x5⟩, hy, z'⟩, w'⟩, rfl, t4, t5, t6, t7, t8, fun i hi => ?_⟩
  obtain ⟨p1, p2, p3, p4⟩ := t9 i hi
  have p2 : tT T i < tC T := p2
  have p3 : tE T i ≤ tC T := p3
  refine ⟨p1, show tT T i < tC T + 1 by omega, show tE T i ≤ tC T + 1 by omega, fun p hp hq => ?_⟩
  exact wfC_up (Nat.le_succ _) _ _ (p4 p hp hq)
section CE
variable {u : Nat → Nat} {e n0 g l P fl s c f : Nat} {NV NA : Nat → Nat} {σ0 τ0 σ τ : Wd}
theorem top_cell (he : e ≤ 2000) (h : Top u e n0 g l P fl s c f NV NA σ0 τ0 σ τ) (hk : kTk u e P = 22) : ∃ σ' τ', M_X3_tellCell σ = some σ' ∧ mcT τ = some τ' ∧ TopX u e n0 g l P σ0 τ0 σ' τ' := by
  obtain ⟨hB, ⟨s1, s2, s3, s4⟩, ⟨d1, d2, d3, d4, d5, d6⟩, hN, hT⟩ := h
  have hg := hB.2.1.2.2.2.2.2.1
  have hl := hB.2.2.1.2.2.2.2.1
  have h19 := hB.2.2.1.2.2.2.1
  have h26 := hB.2.1.2.2.2.2.1
  have hP := hB.1.2.1
  have h27 := hB.2.1.2.2.2.1
  have h13 := hB.2.2.1.2.2.1
  have eC : M_X3_tellCell σ = if nI c < 6 then bnd1 (M_X3_take σ 102) fun s_23 => tc1 s_23 (nI c) else bnd1 (M_X3_fail σ 2) fun s_16 => some s_16 := by
    unfold M_X3_tellCell
    rw [h26, chk_pos hg, d1]
    rfl
  have eM : ∀ τx, M_X9_tellCell τx = bnd2 (M_X9_named τx) fun r1 s_1 => mc1 s_1 r1 := fun τx => rfl
  have f2 := b_fail hB (f := 2) (Or.inr rfl)
  have f2 : M_X3_fail σ 2 = _ ∧ M_X9_fail τ 2 = _ := f2
  unfold mcT M_X9_roomFor M_X9_roomFor_J10
  simp only [eM, lt_eq]
  rw [eC, h19, chk_pos ((ib_nI (by omega)).mpr hl), ix_nI (by omega), d3, h13, f2.1, f2.2, bnd1_some]
  have n13 : ∀ (τx : Wd) (f p : Nat), gI (flM τx f p) 0 13 = nI f := fun τx f p => by unfold flM; rw [gI_uI, if_neg (by omega), gI_s]
  by_cases hc : c < 6
  · rw [if_pos (show nI c < 6 from (nI_ltI (b := 6) (by omega) (by omega)).mpr hc), if_pos (show nI c ≠ 6 from fun z => by have := (nI_eq (b := 6) (by omega) (by omega)).mp z; omega), if_neg z00]
    have tk := b_take hB (k := 22) (by decide) (by decide)
    have tk : M_X3_take σ 102 = _ := tk
    rw [if_pos hk] at tk
    rw [tk, b_goes hB, bnd1_some, bnd1_some, bnd1_some]
    by_cases h4 : P < 400
    · rw [if_pos h4, if_pos h4, show gI (uI τ 0 11 (nI (P + 1))) 0 13 = 0 by rw [gI_uI, if_neg (by omega)]; exact h13, if_neg z00]
      have hB1 := hB.adv (by rw [hk]; decide) h4
      have hN1 : Nm (c + f) (c + f) c fl NV NA (uI σ 6 4 (nI (P + 1))) (uI τ 0 11 (nI (P + 1))) := Nm_eq (σ' := uI σ 6 4 (nI (P + 1))) (τ' := uI τ 0 11 (nI (P + 1))) hN (by rw [gI_uI, if_neg (by omega)]) (by rw [gI_uI, if_neg (by omega)]) rfl (funext fun k => by show gI (uI σ 6 4 (nI (P + 1))) 4 k = _; rw [gI_uI, if_neg (by omega)]; rfl) rfl (funext fun k => by show gI (uI τ 0 11 (nI (P + 1))) 9 k = _; rw [gI_uI, if_neg (by omega)]; rfl) (fun z => z)
      have hP1 := hB1.1.2.1
      have q12 : gI (uI τ 0 11 (nI (P + 1))) 12 l = nI c := by rw [gI_uI, if_neg (by omega)]; exact d3
      generalize hσ1 : uI σ 6 4 (nI (P + 1)) = σ1 at *
      generalize hτ1 : uI τ 0 11 (nI (P + 1)) = τ1 at *
      by_cases hk1 : kTk u e (P + 1) = 1
      · obtain ⟨fl', σa, τa, k1, k2, k3, k4, k5, k6⟩ := b_named hB1 he hN1 (by omega) hk1 (nI c)
        have hx := (hB1.row.2.2.1 hk1).2
        generalize hxx : vTk u e (P + 1) = x at *
        have k3' := k3.kp (m := c + f) (x := x) (a := nI c)
        have ta := b_take k3' (k := 1) (by decide) (by decide)
        have ta : M_X3_take _ 2 = _ := ta
        rw [if_pos hk1] at ta
        unfold tc1
        rw [k1, bnd1_some, ta, bnd1_some, k2, bnd2_some]
        by_cases h5 : P + 1 < 400
        · rw [if_pos h5, if_pos h5]
          have hB2 := k3'.adv (by rw [hk1]; decide) h5
          have q12a : gI (uI τa 0 11 (nI (P + 1 + 1))) 12 l = nI c := by rw [gI_uI, if_neg (by omega), k6.1 12 l (by omega)]; exact q12
          have hC2 : ∀ i k, g ≤ i → i ≤ g + 8 → gI (uI (kpN σa (c + f) x (nI c)) 6 4 (nI (P + 1 + 1))) i k = gI σ i k := fun i k h1 h2 => by
            unfold kpN
            rw [gI_uI, if_neg (by omega), gI_uI, if_neg (by omega), gI_uI, if_neg (by omega), gI_uL, k5.1 i k (by omega), ← hσ1, gI_uI, if_neg (by omega)]
          have hM2 : ∀ i k, 1 ≤ i → gI (uI τa 0 11 (nI (P + 1 + 1))) i k = gI τ i k := fun i k h1 => by
            rw [gI_uI, if_neg (by omega), k6.1 i k (by omega), ← hτ1, gI_uI, if_neg (by omega)]
          have hM20 : ∀ k, k ≠ 11 → k ≠ 15 → k ≠ 16 → gI (uI τa 0 11 (nI (P + 1 + 1))) 0 k = gI τ 0 k := fun k h1 h2 h3 => by
            rw [gI_uI, if_neg (by omega), k6.1 0 k (by omega), ← hτ1, gI_uI, if_neg (by omega)]
          have hML : (uI τa 0 11 (nI (P + 1 + 1))).2 = τ.2 := by
            show τa.2 = _
            rw [k6.2, ← hτ1]; rfl
          have hCL : (uI (kpN σa (c + f) x (nI c)) 6 4 (nI (P + 1 + 1))).2.1 3 = fun k => if k = c + f then lN (cv 8 x) else gL σ 3 k := funext fun k => by
            show gL (uL σa 3 (c + f) (lN (cv 8 x))) 3 k = _
            rw [gL_uL]
            by_cases q : k = c + f
            · rw [if_pos ⟨rfl, q⟩, if_pos q]
            · rw [if_neg (fun z => q z.2), if_neg q]
              show σa.2.1 3 k = _
              rw [k5.2, ← hσ1]
              rfl
          have hC4 : ∀ k, gI (uI (kpN σa (c + f) x (nI c)) 6 4 (nI (P + 1 + 1))) 4 k = if k = c + f then nI c else gI σ 4 k := fun k => by
            unfold kpN
            rw [gI_uI, if_neg (by omega), gI_uI, if_neg (by omega), gI_uI]
            by_cases q : k = c + f
            · rw [if_pos ⟨rfl, q⟩, if_pos q]
            · rw [if_neg (fun z => q z.2), if_neg q, gI_uL, k5.1 4 k (by omega), ← hσ1, gI_uI, if_neg (by omega)]
          have hC23 : gI (uI (kpN σa (c + f) x (nI c)) 6 4 (nI (P + 1 + 1))) 2 3 = nI (c + f + 1) := by
            unfold kpN
            rw [gI_uI, if_neg (by omega), gI_s]
          obtain ⟨r48, n1, n2⟩ := b_number hB2
          have bd := b_bounded hB2 (lo := 0) (hi := 9999) rfl rfl
          have bd : M_X9_bounded _ 0 9999 = _ := bd
          have h26a := hB2.2.1.2.2.2.2.1
          have h19a := hB2.2.2.1.2.2.2.1
          have hB2c := hB2.wC (c := g + 1) (k := c) (v := r48) (by omega) (fun z => by omega) (fun z => by omega)
          have tk3 := b_take hB2c (k := 2) (by decide) (by decide)
          have tk3 : M_X3_take _ 3 = _ := tk3
          generalize hσ2 : uI (kpN σa (c + f) x (nI c)) 6 4 (nI (P + 1 + 1)) = σ2 at *
          generalize hτ2 : uI τa 0 11 (nI (P + 1 + 1)) = τ2 at *
          unfold tc2 mc1
          simp only [lt_eq]
          rw [h26a, chk_pos hg, n1, bnd1_some, chk_pos ((ib_nI (by omega)).mpr hc), ix_nI (by omega), tk3, bnd1_some, h19a, chk_pos ((ib_nI (by omega)).mpr hl), bd, bnd2_some]
          by_cases k2' : kTk u e (P + 1 + 1) = 2
          · rw [if_pos k2', if_pos k2']
            have n2 := n2 k2'
            by_cases h6 : P + 1 + 1 < 400
            · rw [if_pos h6, if_pos h6]
              have hB3 := (hB2c.adv (by rw [k2']; decide) h6).wM (c := 13) (k := 6 * l + c) (v := r48) (by unfold okm; omega) (fun z => by omega)
              rw [← n2]
              unfold tc3 mc2
              simp only [lt_eq]
              rw [h19a, ix_nI (by omega), q12a, show (6 : Int32) = nI 6 from rfl, pk_mul, nI_add, chk_pos ((ib_nI (by omega)).mpr (by omega)), ix_nI (by omega)]
              have tk4 := b_take hB3 (k := 4) (by decide) (by decide)
              have tk4 : M_X3_take _ 59 = _ := tk4
              have mu4 := b_must hB3 (k := 4) (by decide)
              have mu4 : M_X9_must _ 4 = _ := mu4
              rw [tk4, mu4, bnd1_some, bnd1_some]
              by_cases k4' : kTk u e (P + 1 + 1 + 1) = 4
              · rw [if_pos k4', if_pos k4']
                by_cases h7 : P + 1 + 1 + 1 < 400
                · rw [if_pos h7, if_pos h7]
                  have hB4 := hB3.adv (by rw [k4']; decide) h7
                  -- the end on both sides
                  have y26 := hB4.2.1.2.2.2.2.1
                  have y13 := hB4.2.2.1.2.2.1
                  have y19 := hB4.2.2.1.2.2.2.1
                  have hC4' : ∀ i k, ¬ (i = 6 ∧ k = 4) → ¬ (i = g + 1 ∧ k = c) → gI (uI (uI (uI σ2 (g + 1) c r48) 6 4 (nI (P + 1 + 1 + 1))) 6 4 (nI (P + 1 + 1 + 1 + 1))) i k = gI σ2 i k := fun i k a b => by
                    rw [gI_uI, if_neg a, gI_uI, if_neg a, gI_uI, if_neg b]
                  have hCL4 : (uI (uI (uI σ2 (g + 1) c r48) 6 4 (nI (P + 1 + 1 + 1))) 6 4 (nI (P + 1 + 1 + 1 + 1))).2 = σ2.2 := rfl
                  have hCv : gI (uI (uI (uI σ2 (g + 1) c r48) 6 4 (nI (P + 1 + 1 + 1))) 6 4 (nI (P + 1 + 1 + 1 + 1))) (g + 1) c = r48 := by
                    rw [gI_uI, if_neg (by omega), gI_uI, if_neg (by omega), gI_s]
                  have hM4 : ∀ i k, ¬ (i = 0 ∧ k = 11) → ¬ (i = 13 ∧ k = 6 * l + c) → gI (uI (uI (uI τ2 0 11 (nI (P + 1 + 1 + 1))) 13 (6 * l + c) r48) 0 11 (nI (P + 1 + 1 + 1 + 1))) i k = gI τ2 i k := fun i k a b => by
                    rw [gI_uI, if_neg a, gI_uI, if_neg b, gI_uI, if_neg a]
                  have hMv : gI (uI (uI (uI τ2 0 11 (nI (P + 1 + 1 + 1))) 13 (6 * l + c) r48) 0 11 (nI (P + 1 + 1 + 1 + 1))) 13 (6 * l + c) = r48 := by
                    rw [gI_uI, if_neg (by omega), gI_s]
                  have hML4 : (uI (uI (uI τ2 0 11 (nI (P + 1 + 1 + 1))) 13 (6 * l + c) r48) 0 11 (nI (P + 1 + 1 + 1 + 1))).2 = τ2.2 := rfl
                  generalize hσ4 : uI (uI (uI σ2 (g + 1) c r48) 6 4 (nI (P + 1 + 1 + 1))) 6 4 (nI (P + 1 + 1 + 1 + 1)) = σ4 at *
                  generalize hτ4 : uI (uI (uI τ2 0 11 (nI (P + 1 + 1 + 1))) 13 (6 * l + c) r48) 0 11 (nI (P + 1 + 1 + 1 + 1)) = τ4 at *
                  have w20 : gI τ4 0 20 = nI (c + f) := by rw [hM4 0 20 (by omega) (by omega), hM20 20 (by omega) (by omega) (by omega)]; exact hN.2.1
                  have w6 : gL τ4 6 (P + 1) = lN x := by
                    have := (hB1.row.2.2.2.2.2.2.1 hk1)
                    show τ4.2.1 6 (P + 1) = _
                    rw [hML4, hML, ← (show τ1.2 = τ.2 by rw [← hτ1]; rfl), ← hxx]
                    exact this
                  have w12 : gI τ4 12 l = nI c := (hM4 12 l (by omega) (by omega)).trans q12a
                  unfold mc3
                  simp only [lt_eq]
                  rw [y26, chk_pos hg, y13, if_pos (show (0 : Int32) ≤ 0 by decide), y19, chk_pos ((ib_nI (by omega)).mpr hl), ix_nI (by omega), w12, m_keeps (by omega) (by omega) w20 w6, bnd1_some]
                  have v19 : gI (kpM τ4 (c + f) x (nI c)) 0 19 = nI l := by unfold kpM; rw [gI_uI, if_neg (by omega), gI_uI, if_neg (by omega), gI_uL]; exact y19
                  have v12 : gI (kpM τ4 (c + f) x (nI c)) 12 l = nI c := by unfold kpM; rw [gI_uI, if_neg (by omega), gI_uI, if_neg (by omega), gI_uL]; exact w12
                  rw [v19, chk_pos ((ib_nI (by omega)).mpr hl), chk_pos ((ib_nI (by omega)).mpr hl), ix_nI (by omega), v12, nI_1, hC4' g 3 (by omega) (by omega), hC2 g 3 (by omega) (by omega), d1, nI_1]
                  refine ⟨_, _, rfl, rfl, Or.inr ⟨P + 1 + 1 + 1 + 1, fl', s, c + 1, f, fun i => if i = c + f then x else NV i, fun i => if i = c + f then c else NA i, by omega, ?_, ⟨?_, ?_, ?_, by omega⟩, ⟨gI_s, ?_, gI_s, ?_, by omega, d6⟩, ?_, fun z => ?_⟩⟩
                  · exact ((hB4.km (m := c + f) (x := x) (a := nI c)).wM (by unfold okm; omega) (fun z => by omega)).wC (by omega) (fun z => by omega) (fun z => by omega)
                  · rw [gI_uI, if_neg (by omega), hC4' g 13 (by omega) (by omega), hC2 g 13 (by omega) (by omega)]; exact s1
                  · unfold kpM
                    rw [gI_uI, if_neg (by omega), gI_uI, if_neg (by omega), gI_uI, if_neg (by omega), gI_uL, hM4 0 33 (by omega) (by omega), hM20 33 (by omega) (by omega) (by omega)]; exact s2
                  · unfold kpM
                    rw [gI_uI, if_neg (by omega), gI_uI, if_neg (by omega), gI_uI, if_neg (by omega), gI_uL, hM4 0 12 (by omega) (by omega), hM20 12 (by omega) (by omega) (by omega)]; exact s3
                  · rw [gI_uI, if_neg (by omega), hC4' g 4 (by omega) (by omega), hC2 g 4 (by omega) (by omega)]; exact d2
                  · unfold kpM
                    rw [gI_uI, if_neg (by omega), gI_uI, if_neg (by omega), gI_uI, if_neg (by omega), gI_uL, hM4 14 l (by omega) (by omega), hM2 14 l (by omega)]; exact d4
                  · obtain ⟨a1, a2, a3, a4, a5, a6, a7, a8, a9⟩ := hN
                    rw [show c + 1 + f = c + f + 1 by omega]
                    have k9 : ∀ k, gI (uI (kpM τ4 (c + f) x (nI c)) 12 l (nI (c + 1))) 9 k = if k = c + f then nI c else gI τ 9 k := fun k => by
                      unfold kpM
                      rw [gI_uI, if_neg (by omega), gI_uI, if_neg (by omega), gI_uI]
                      by_cases q : k = c + f
                      · rw [if_pos ⟨rfl, q⟩, if_pos q]
                      · rw [if_neg (fun z => q z.2), if_neg q, gI_uL, hM4 9 k (by omega) (by omega), hM2 9 k (by omega)]
                    have k8 : ∀ k, gL (uI (kpM τ4 (c + f) x (nI c)) 12 l (nI (c + 1))) 8 k = if k = c + f then lN x else gL τ 8 k := fun k => by
                      show gL (uL τ4 8 (c + f) (lN x)) 8 k = _
                      rw [gL_uL]
                      by_cases q : k = c + f
                      · rw [if_pos ⟨rfl, q⟩, if_pos q]
                      · rw [if_neg (fun z => q z.2), if_neg q]
                        show τ4.2.1 8 k = _
                        rw [hML4, hML]
                        rfl
                    refine ⟨?_, ?_, Nat.le_refl _, by omega, fun i hi => ?_, fun i hi => ?_, fun i h1 h2 => by omega, by omega, fun z i j hi hj => ?_⟩
                    · rw [gI_uI, if_neg (by omega), hC4' 2 3 (by omega) (by omega)]; exact hC23
                    · unfold kpM
                      rw [gI_uI, if_neg (by omega), gI_s]
                    · rw [gI_uI, if_neg (by omega), hC4' 4 i (by omega) (by omega), hC4 i]
                      show σ4.2.1 3 i = _ ∧ _
                      rw [hCL4, hCL]
                      show (if i = c + f then lN (cv 8 x) else gL σ 3 i) = lN (cv 8 (if i = c + f then x else NV i)) ∧ (if i = c + f then x else NV i) < 27 ^ 8 ∧ (if i = c + f then nI c else gI σ 4 i) = (if (if i = c + f then c else NA i) < 10 then nI (if i = c + f then c else NA i) else -1) ∧ ((if i = c + f then c else NA i) < c + 1 ∨ 10 ≤ (if i = c + f then c else NA i) ∧ (if i = c + f then c else NA i) < 20)
                      by_cases q : i = c + f
                      · simp only [if_pos q]
                        rw [if_pos (show c < 10 by omega)]
                        exact ⟨trivial, hx, rfl, Or.inl (Nat.lt_succ_self c)⟩
                      · simp only [if_neg q]
                        obtain ⟨b1, b2, b3, b4⟩ := a5 i (by omega)
                        exact ⟨b1, b2, b3, by omega⟩
                    · rw [k8, k9]
                      show (if i = c + f then lN x else gL τ 8 i) = lN (if i = c + f then x else NV i) ∧ (if i = c + f then nI c else gI τ 9 i) = nI (if i = c + f then c else NA i)
                      by_cases q : i = c + f
                      · simp only [if_pos q]
                        exact ⟨trivial, trivial⟩
                      · simp only [if_neg q]
                        exact a6 i (by omega)
                    · obtain ⟨z1, z2⟩ := k4 z
                      show (if i = c + f then x else NV i) = (if j = c + f then x else NV j) → i = j
                      by_cases q : i = c + f
                      · by_cases q' : j = c + f
                        · omega
                        · rw [if_pos q, if_neg q']
                          exact fun y => absurd y.symm (z2 j (by omega))
                      · by_cases q' : j = c + f
                        · rw [if_neg q, if_pos q']
                          exact fun y => absurd y (z2 i (by omega))
                        · rw [if_neg q, if_neg q']
                          exact a9 z1 i j (by omega) (by omega)
                  · refine Tw_cell (v := r48) (hT (k4 z).1) (Nat.le_refl _) hc gI_s ?_ gI_s ?_ (fun i k h1 h2 h3 h4 => ?_) (fun i k h1 h2 h3 h4 => ?_)
                    · rw [gI_uI, if_neg (by omega)]; exact hCv
                    · unfold kpM
                      rw [gI_uI, if_neg (by omega), gI_uI, if_neg (by omega), gI_uI, if_neg (by omega), gI_uL]; exact hMv
                    · rw [gI_uI, if_neg (by omega), hC4' i k (by omega) h4, hC2 i k h1 h2]
                    · unfold kpM
                      rw [gI_uI, if_neg h3, gI_uI, if_neg (by omega), gI_uI, if_neg (by omega), gI_uL, hM4 i k (by omega) h4, hM2 i k (by omega)]
                · rw [if_neg h7, if_neg h7]
                  have hF := hB3.fault (f := 2) (Or.inr rfl)
                  have y26 := hB3.2.1.2.2.2.2.1
                  unfold mc3
                  rw [n13, if_neg (show ¬ nI 2 ≤ 0 by decide), show gR (flC (uI (uI σ2 (g + 1) c r48) 6 4 (nI (P + 1 + 1 + 1))) 2 (sq u e (P + 1 + 1 + 1))) 2 6 = g from y26, chk_pos hg]
                  refine ⟨_, _, rfl, rfl, Or.inl (hF.c fun σf hf => hf.wI (by omega) (fun z => by omega) (fun z => by omega) (fun _ => by omega))⟩
              · rw [if_neg k4', if_neg k4']
                have hF := hB3.fault (f := 1) (Or.inl rfl)
                have y26 := hB3.2.1.2.2.2.2.1
                unfold mc3
                rw [n13, if_neg (show ¬ nI 1 ≤ 0 by decide), show gR (flC (uI (uI σ2 (g + 1) c r48) 6 4 (nI (P + 1 + 1 + 1))) 1 (sq u e (P + 1 + 1 + 1))) 2 6 = g from y26, chk_pos hg]
                refine ⟨_, _, rfl, rfl, Or.inl (hF.c fun σf hf => hf.wI (by omega) (fun z => by omega) (fun z => by omega) (fun _ => by omega))⟩
            · rw [if_neg h6, if_neg h6]
              obtain ⟨σf, τf, z1, z2, z3, z4, z5, z6⟩ := hB2c.fault (f := 2) (Or.inr rfl)
              obtain ⟨σ', t1, t2⟩ := F_tc3 z5
              obtain ⟨τ', t3, t4⟩ := G_mc2 z6 hc h19a q12a (nI (P + 1)) (nI (vTk u e (P + 1 + 1)))
              exact ⟨_, _, t1, (congrArg (fun o => bnd1 o fun s_18 => some s_18) t3).trans rfl, Or.inl ⟨σf, τf, z1, z2, z3, z4, t2, t4⟩⟩
          · rw [if_neg k2', if_neg k2']
            obtain ⟨σf, τf, z1, z2, z3, z4, z5, z6⟩ := hB2c.fault (f := 1) (Or.inl rfl)
            obtain ⟨σ', t1, t2⟩ := F_tc3 z5
            obtain ⟨τ', t3, t4⟩ := G_mc2 z6 hc h19a q12a (nI (P + 1)) (nI 0)
            exact ⟨_, _, t1, (congrArg (fun o => bnd1 o fun s_18 => some s_18) t3).trans rfl, Or.inl ⟨σf, τf, z1, z2, z3, z4, t2, t4⟩⟩
        · rw [if_neg h5, if_neg h5]
          obtain ⟨σf, τf, z1, z2, z3, z4, z5, z6⟩ := FLT_mk k3' hB1 (f := 2) (Or.inr rfl)
          obtain ⟨σ', t1, t2⟩ := F_tc2 z5 hc
          obtain ⟨τ', t3, t4⟩ := G_mc1 z6 hc (show gI (flM τ1 2 (sq u e (P + 1))) 12 l = nI c by unfold flM; rw [gI_uI, if_neg (by omega), gI_uI, if_neg (by omega)]; exact q12) (nI (P + 1))
          rw [t1, t3, bnd1_some]
          exact ⟨_, _, rfl, rfl, Or.inl ⟨σf, τf, z1, z2, z3, z4, t2, t4⟩⟩
      · obtain ⟨k1, k2, k3⟩ := b_unnamed hB1 hk1 (nI c)
        obtain ⟨σf, τf, z1, z2, z3, z4, z5, z6⟩ := hB1.fault (f := 1) (Or.inl rfl)
        obtain ⟨σ', t1, t2⟩ := F_tc2 z5 hc
        obtain ⟨τ', t3, t4⟩ := G_mc1 z6 hc (show gI (flM τ1 1 (sq u e (P + 1))) 12 l = nI c by unfold flM; rw [gI_uI, if_neg (by omega), gI_uI, if_neg (by omega)]; exact q12) (nI (P + 1))
        unfold tc1
        rw [k1, bnd1_some, k2, bnd1_some, k3, bnd2_some, t1, t3, bnd1_some]
        exact ⟨_, _, rfl, rfl, Or.inl ⟨σf, τf, z1, z2, z3, z4, t2, t4⟩⟩
    · rw [if_neg h4, if_neg h4, n13, if_pos (show nI 2 ≠ 0 by decide)]
      obtain ⟨σf, τf, z1, z2, z3, z4, z5, z6⟩ := hB.fault (f := 2) (Or.inr rfl)
      obtain ⟨σ', t1, t2⟩ := F_tc1 z5 hc
      exact ⟨_, _, t1, rfl, Or.inl ⟨σf, τf, z1, z2, z3, z4, t2, z6⟩⟩
  · rw [if_neg (show ¬ nI c < 6 from fun z => hc ((nI_ltI (b := 6) (by omega) (by omega)).mp z)), if_neg (show ¬ nI c ≠ 6 from fun z => z (by rw [show c = 6 by omega]; rfl)), bnd1_some, n13, if_pos (show nI 2 ≠ 0 by decide), bnd1_some, n13, if_pos (show nI 2 ≠ 0 by decide)]
    exact ⟨_, _, rfl, rfl, Or.inl (hB.fault (Or.inr rfl))⟩
end CE
