/-! a form's last step -/
/-- a form more -/
def foT (T : Td) (f L t x : Nat) (X : Nat → List (Nat × Int32)) : Td := (fun a b => if a = 4 ∧ b = 0 then f + 1 else if a = 5 ∧ b = f then L else if a = 6 ∧ b = f then t else if a = 7 ∧ b = f then x else T.1 a b, T.2.1, fun i p => if i = f then X p else T.2.2 i p)
theorem foT_L {T : Td} {f L t x : Nat} {X : Nat → List (Nat × Int32)} {i : Nat} : tL (foT T f L t x X) i = (if i = f then L else tL T i) ∧ tT (foT T f L t x X) i = (if i = f then t else tT T i) ∧ tE (foT T f L t x X) i = (if i = f then x else tE T i) := by
  unfold foT
  by_cases q : i = f
  · refine ⟨?_, ?_, ?_⟩
    · show (if 5 = 4 ∧ i = 0 then f + 1 else if 5 = 5 ∧ i = f then L else _) = _
      rw [if_neg (by omega), if_pos ⟨rfl, q⟩, if_pos q]
    · show (if 6 = 4 ∧ i = 0 then f + 1 else if 6 = 5 ∧ i = f then L else if 6 = 6 ∧ i = f then t else _) = _
      rw [if_neg (by omega), if_neg (by omega), if_pos ⟨rfl, q⟩, if_pos q]
    · show (if 7 = 4 ∧ i = 0 then f + 1 else if 7 = 5 ∧ i = f then L else if 7 = 6 ∧ i = f then t else if 7 = 7 ∧ i = f then x else _) = _
      rw [if_neg (by omega), if_neg (by omega), if_neg (by omega), if_pos ⟨rfl, q⟩, if_pos q]
  · refine ⟨?_, ?_, ?_⟩
    · show (if 5 = 4 ∧ i = 0 then f + 1 else if 5 = 5 ∧ i = f then L else if 5 = 6 ∧ i = f then t else if 5 = 7 ∧ i = f then x else T.1 5 i) = _
      rw [if_neg (by omega), if_neg (fun z => q z.2), if_neg (by omega), if_neg (by omega), if_neg q]
    · show (if 6 = 4 ∧ i = 0 then f + 1 else if 6 = 5 ∧ i = f then L else if 6 = 6 ∧ i = f then t else if 6 = 7 ∧ i = f then x else T.1 6 i) = _
      rw [if_neg (by omega), if_neg (by omega), if_neg (fun z => q z.2), if_neg (by omega), if_neg q]
    · show (if 7 = 4 ∧ i = 0 then f + 1 else if 7 = 5 ∧ i = f then L else if 7 = 6 ∧ i = f then t else if 7 = 7 ∧ i = f then x else T.1 7 i) = _
      rw [if_neg (by omega), if_neg (by omega), if_neg (by omega), if_neg (fun z => q z.2), if_neg q]
theorem Tw_form {g l s c f L t x : Nat} {X : Nat → List (Nat × Int32)} {σ τ σ' τ' : Wd} (h : Tw g l s c f σ τ) (hl : l < 2) (hs4 : s ≤ 400) (hL : L ≤ 1) (ht : t < c) (hx : x ≤ c)
    (hX : ∀ p, p < 4 → (p < 3 ∨ x ≠ 0) → ∃ a, a + (X p).length ≤ s ∧ gI σ (g + 5) (4 * f + p) = nI a ∧ gI σ (g + 6) (4 * f + p) = nI (a + (X p).length) ∧ CC (X p) a (gI σ (g + 7)) (gI σ (g + 8)) ∧ gI τ 18 (5 * (6 * l + f) + p) = nI (420 * l + a) ∧ gI τ 18 (5 * (6 * l + f) + p + 1) = nI (420 * l + (a + (X p).length)) ∧ CM (X p) (420 * l + a) (gI τ 20) (gI τ 21) ∧ wfC c (X p) 0)
    (hc2 : gI σ (g + 2) f = nI L) (hc3 : gI σ (g + 3) f = nI t) (hc4 : gI σ (g + 4) f = (if x = 0 then -1 else nI (x - 1)))
    (hm2 : gI τ 15 (6 * l + f) = (if L = 1 then 13 else 5)) (hm3 : gI τ 16 (6 * l + f) = nI t) (hm4 : gI τ 17 (6 * l + f) = (if x = 0 then -1 else nI (x - 1)))
    (h1 : gI σ' g 4 = nI (f + 1)) (m1 : gI τ' 14 l = nI (f + 1)) (e1 : ∀ i k, g ≤ i → i ≤ g + 8 → ¬ (i = g ∧ k = 4) → gI σ' i k = gI σ i k) (e2 : ∀ i k, 10 ≤ i → i ≤ 21 → ¬ (i = 14 ∧ k = l) → gI τ' i k = gI τ i k) : Tw g l s c (f + 1) σ' τ' := by
  obtain ⟨T, ⟨⟨⟨a1, a2, a3, a4, a5⟩, b, cc⟩, d⟩, ⟨⟨⟨x1, x2, x3, x4, x5⟩, y, zz⟩, w⟩, t3, t4, t5, t6, t7, t8, t9⟩ := h
  subst t3
  subst t4
  have en : ∀ i, 1 ≤ i → i ≤ 8 → gI σ' (g + i) = gI σ (g + i) := fun i h1 h8 => funext fun k => e1 (g + i) k (by omega) (by omega) (fun z => by omega)
  have em : ∀ i, 10 ≤ i → i ≤ 21 → i ≠ 14 → gI τ' i = gI τ i := fun i h1 h8 h9 => funext fun k => e2 i k (by omega) (by omega) (fun z => h9 z.1)
  have e0 : ∀ k, k ≠ 4 → gI σ' g k = gI σ g k := fun k h => e1 g k (by omega) (by omega) (fun z => h z.2)
  refine ⟨foT T (tF T) L t x X, ⟨⟨⟨(e0 0 (by omega)).trans a1, (e0 1 (by omega)).trans a2, (e0 2 (by omega)).trans a3, (e0 3 (by omega)).trans a4, h1⟩, ?_, fun i hi => ?_⟩, fun i hi p hp hq => ?_⟩, ⟨⟨⟨by rw [em 10 (by omega) (by omega) (by omega)]; exact x1, by rw [em 11 (by omega) (by omega) (by omega)]; exact x2, by rw [em 19 (by omega) (by omega) (by omega)]; exact x3, by rw [em 12 (by omega) (by omega) (by omega)]; exact x4, m1⟩, ?_, fun i hi => ?_⟩, fun i hi p hp hq => ?_⟩, rfl, rfl, t5, t6, t7, t8, fun i hi => ?_⟩
  · rw [en 1 (by omega) (by omega)]; exact b
  · obtain ⟨u1, u2, u3⟩ := foT_L (T := T) (f := tF T) (L := L) (t := t) (x := x) (X := X) (i := i)
    have hi : i < tF T + 1 := hi
    rw [u1, u2, u3, en 2 (by omega) (by omega), en 3 (by omega) (by omega), en 4 (by omega) (by omega), en 5 (by omega) (by omega), en 6 (by omega) (by omega), en 7 (by omega) (by omega), en 8 (by omega) (by omega)]
    show gI σ (g + 2) i = _ ∧ gI σ (g + 3) i = _ ∧ gI σ (g + 4) i = _ ∧ ∀ p, p < 4 → _ → ∃ a, gI σ (g + 5) (4 * i + p) = nI a ∧ gI σ (g + 6) (4 * i + p) = nI (a + (if i = tF T then X p else tX T i p).length) ∧ a + (if i = tF T then X p else tX T i p).length ≤ 400 ∧ CC (if i = tF T then X p else tX T i p) a (gI σ (g + 7)) (gI σ (g + 8))
    by_cases q : i = tF T
    · simp only [if_pos q]
      subst q
      refine ⟨hc2, hc3, hc4, fun p hp hq => ?_⟩
      obtain ⟨a, v1, v2, v3, v4, v5, v6, v7, v8⟩ := hX p hp hq
      exact ⟨a, v2, v3, by omega, v4⟩
    · simp only [if_neg q]
      exact cc i (by omega)
  · obtain ⟨u1, u2, u3⟩ := foT_L (T := T) (f := tF T) (L := L) (t := t) (x := x) (X := X) (i := i)
    have hi : i < tF T + 1 := hi
    rw [u3] at hq
    rw [en 6 (by omega) (by omega)]
    by_cases q : i = tF T
    · rw [if_pos q] at hq
      subst q
      obtain ⟨a, v1, v2, v3, v4, v5, v6, v7, v8⟩ := hX p hp hq
      exact ⟨_, v1, v3⟩
    · rw [if_neg q] at hq
      exact d i (by omega) p hp hq
  · rw [em 13 (by omega) (by omega) (by omega)]; exact y
  · obtain ⟨u1, u2, u3⟩ := foT_L (T := T) (f := tF T) (L := L) (t := t) (x := x) (X := X) (i := i)
    have hi : i < tF T + 1 := hi
    rw [u1, u2, u3, em 15 (by omega) (by omega) (by omega), em 16 (by omega) (by omega) (by omega), em 17 (by omega) (by omega) (by omega), em 18 (by omega) (by omega) (by omega), em 20 (by omega) (by omega) (by omega), em 21 (by omega) (by omega) (by omega)]
    show gI τ 15 (6 * l + i) = _ ∧ gI τ 16 (6 * l + i) = _ ∧ gI τ 17 (6 * l + i) = _ ∧ ∀ p, p < 4 → _ → ∃ a, gI τ 18 (5 * (6 * l + i) + p) = nI a ∧ gI τ 18 (5 * (6 * l + i) + p + 1) = nI (a + (if i = tF T then X p else tX T i p).length) ∧ (a + (if i = tF T then X p else tX T i p).length ≤ 840 ∧ 420 * l ≤ a ∧ a + (if i = tF T then X p else tX T i p).length ≤ 420 * l + 420) ∧ CM (if i = tF T then X p else tX T i p) a (gI τ 20) (gI τ 21)
    by_cases q : i = tF T
    · simp only [if_pos q]
      subst q
      refine ⟨hm2, hm3, hm4, fun p hp hq => ?_⟩
      obtain ⟨a, v1, v2, v3, v4, v5, v6, v7, v8⟩ := hX p hp hq
      exact ⟨420 * l + a, v5, v6.trans (by rw [Nat.add_assoc]), by omega, v7⟩
    · simp only [if_neg q]
      exact zz i (by omega)
  · obtain ⟨u1, u2, u3⟩ := foT_L (T := T) (f := tF T) (L := L) (t := t) (x := x) (X := X) (i := i)
    have hi : i < tF T + 1 := hi
    rw [u3] at hq
    rw [em 18 (by omega) (by omega) (by omega)]
    by_cases q : i = tF T
    · rw [if_pos q] at hq
      subst q
      obtain ⟨a, v1, v2, v3, v4, v5, v6, v7, v8⟩ := hX p hp hq
      exact ⟨_, by omega, v6⟩
    · rw [if_neg q] at hq
      exact w i (by omega) p hp hq
  · obtain ⟨u1, u2, u3⟩ := foT_L (T := T) (f := tF T) (L := L) (t := t) (x := x) (X := X) (i := i)
    have hi : i < tF T + 1 := hi
    rw [u1, u2, u3]
    show _ ∧ _ < tC T ∧ _ ≤ tC T ∧ ∀ p, p < 4 → _ → wfC (tC T) (if i = tF T then X p else tX T i p) 0
    by_cases q : i = tF T
    · simp only [if_pos q]
      refine ⟨hL, ht, hx, fun p hp hq => ?_⟩
      obtain ⟨a, v1, v2, v3, v4, v5, v6, v7, v8⟩ := hX p hp hq
      exact v8
    · simp only [if_neg q]
      exact t9 i (by omega)
section FZ
variable {u : Nat → Nat} {e n0 g l P fl s c f r k q : Nat} {NV NA : Nat → Nat} {σ0 τ0 σ τ : Wd}
theorem fs_Z {P0 : Nat} (hP0 : P0 ≤ P) (h : FS u e n0 g l P fl s c f r k q NV NA σ0 τ0 σ τ) (hkq : (q = 3 ∧ k = 3) ∨ (q = 4 ∧ k = 4)) (h18 : k = 3 → gI τ 18 (5 * (6 * l + f) + 3) = nI (420 * l + s)) : ∃ σ' τ', M_X3_tellForm_J191 σ = some σ' ∧ M_X9_tellForm_J199 τ (nI (6 * l + f)) (nI r) = some τ' ∧ TopX u e n0 g l P0 σ0 τ0 σ' τ' := by
  obtain ⟨hB, ⟨s1, s2, s3, s4⟩, ⟨d1, d2, d3, d4, d5, d6⟩, ⟨hN, hNA, hr, hrr⟩, hT⟩ := h
  have hg := hB.2.1.2.2.2.2.2.1
  have hl := hB.2.2.1.2.2.2.2.1
  have h13 := hB.2.2.1.2.2.1
  have h26 := hB.2.1.2.2.2.2.1
  have hP := hB.1.2.1
  generalize hw : 5 * (6 * l + f) = w at *
  have hBm := hB.wM (c := 18) (k := w + 4) (v := nI (420 * l + s)) (by unfold okm; omega) (fun z => by omega)
  unfold M_X3_tellForm_J191 M_X9_tellForm_J199
  simp only [lt_eq]
  have tk := b_take hBm (k := 4) (by decide) (by decide)
  have tk : M_X3_take _ 59 = _ := tk
  have mu := b_must hBm (k := 4) (by decide)
  have mu : M_X9_must _ 4 = _ := mu
  have n13 : ∀ (τx : Wd) (f p : Nat), gI (flM τx f p) 0 13 = nI f := fun τx f p => by unfold flM; rw [gI_uI, if_neg (by omega), gI_s]
  rw [x5 (by omega), hw, show (4 : Int32) = nI 4 from rfl, nI_add, chk_pos ((ib_nI (by omega)).mpr (by omega)), ix_nI (by omega), s2, tk, show M_X9_must (uI τ 18 (w + 4) (nI (420 * l + s))) (nI 4) = _ from mu, bnd1_some, bnd1_some]
  by_cases k4 : kTk u e P = 4
  · rw [if_pos k4, if_pos k4]
    by_cases h4 : P < 400
    · rw [if_pos h4, if_pos h4]
      have hB1 := hBm.adv (by rw [k4]; decide) h4
      have y26 := hB1.2.1.2.2.2.2.1
      have y13 := hB1.2.2.1.2.2.1
      have y19 := hB1.2.2.1.2.2.2.1
      have hC : ∀ i j, ¬ (i = 6 ∧ j = 4) → gI (uI σ 6 4 (nI (P + 1))) i j = gI σ i j := fun i j a => by rw [gI_uI, if_neg a]
      have hM : ∀ i j, ¬ (i = 0 ∧ j = 11) → ¬ (i = 18 ∧ j = w + 4) → gI (uI (uI τ 18 (w + 4) (nI (420 * l + s))) 0 11 (nI (P + 1))) i j = gI τ i j := fun i j a b => by rw [gI_uI, if_neg a, gI_uI, if_neg b]
      have hv4 : gI (uI (uI τ 18 (w + 4) (nI (420 * l + s))) 0 11 (nI (P + 1))) 18 (w + 4) = nI (420 * l + s) := by rw [gI_uI, if_neg (by omega), gI_s]
      have hC2 : (uI σ 6 4 (nI (P + 1))).2 = σ.2 := rfl
      have hM2 : (uI (uI τ 18 (w + 4) (nI (420 * l + s))) 0 11 (nI (P + 1))).2 = τ.2 := rfl
      generalize uI σ 6 4 (nI (P + 1)) = σ1 at *
      generalize uI (uI τ 18 (w + 4) (nI (420 * l + s))) 0 11 (nI (P + 1)) = τ1 at *
      have w20 : gI τ1 0 20 = nI (c + f) := (hM 0 20 (by omega) (by omega)).trans hN.2.1
      have w6 : gL τ1 6 r = lN (NV (c + f)) := by
        show τ1.2.1 6 r = _
        rw [hM2]; exact hrr
      have w14 : gI τ1 14 l = nI f := (hM 14 l (by omega) (by omega)).trans d4
      rw [y26, chk_pos hg, y13, if_pos (show (0 : Int32) ≤ 0 by decide), y19, chk_pos ((ib_nI (by omega)).mpr hl), ix_nI (by omega), w14, show (10 : Int32) = nI 10 from rfl, nI_add, m_keeps (by omega) hr w20 w6, bnd1_some]
      have v19 : gI (kpM τ1 (c + f) (NV (c + f)) (nI (10 + f))) 0 19 = nI l := by unfold kpM; rw [gI_uI, if_neg (by omega), gI_uI, if_neg (by omega), gI_uL]; exact y19
      have v14 : gI (kpM τ1 (c + f) (NV (c + f)) (nI (10 + f))) 14 l = nI f := by unfold kpM; rw [gI_uI, if_neg (by omega), gI_uI, if_neg (by omega), gI_uL]; exact w14
      rw [v19, chk_pos ((ib_nI (by omega)).mpr hl), chk_pos ((ib_nI (by omega)).mpr hl), ix_nI (by omega), v14, nI_1, hC g 4 (by omega), d2, nI_1]
      have kM : ∀ i j, ¬ (i = 9 ∧ j = c + f) → ¬ (i = 0 ∧ j = 20) → ¬ (i = 14 ∧ j = l) → gI (uI (kpM τ1 (c + f) (NV (c + f)) (nI (10 + f))) 14 l (nI (f + 1))) i j = gI τ1 i j := fun i j a1 a2 a3 => by
        unfold kpM
        rw [gI_uI, if_neg a3, gI_uI, if_neg a2, gI_uI, if_neg a1, gI_uL]
      refine ⟨_, _, rfl, rfl, Or.inr ⟨P + 1, fl, s, c, f + 1, NV, NA, by omega, ?_, ⟨?_, ?_, ?_, by omega⟩, ⟨?_, gI_s, ?_, gI_s, d5, by omega⟩, ?_, fun z => ?_⟩⟩
      · exact ((hB1.km (m := c + f) (x := NV (c + f)) (a := nI (10 + f))).wM (by unfold okm; omega) (fun z => by omega)).wC (by omega) (fun z => by omega) (fun z => by omega)
      · rw [gI_uI, if_neg (by omega), hC g 13 (by omega)]; exact s1
      · rw [kM 0 33 (by omega) (by omega) (by omega), hM 0 33 (by omega) (by omega)]; exact s2
      · rw [kM 0 12 (by omega) (by omega) (by omega), hM 0 12 (by omega) (by omega)]; exact s3
      · rw [gI_uI, if_neg (by omega), hC g 3 (by omega)]; exact d1
      · rw [kM 12 l (by omega) (by omega) (by omega), hM 12 l (by omega) (by omega)]; exact d3
      · obtain ⟨a1, a2, a3, a4, a5, a6, a7, a8, a9⟩ := hN
        rw [show c + (f + 1) = c + f + 1 by omega]
        refine ⟨?_, ?_, Nat.le_refl _, by omega, fun i hi => ?_, fun i hi => ?_, fun i h1 h2 => by omega, a8, a9⟩
        · rw [gI_uI, if_neg (by omega), hC 2 3 (by omega)]; exact a1
        · unfold kpM
          rw [gI_uI, if_neg (by omega), gI_s]
        · rw [gI_uI, if_neg (by omega), hC 4 i (by omega)]
          show σ1.2.1 3 i = _ ∧ _
          rw [hC2]
          exact a5 i hi
        · have k8 : gL (uI (kpM τ1 (c + f) (NV (c + f)) (nI (10 + f))) 14 l (nI (f + 1))) 8 i = if i = c + f then lN (NV (c + f)) else gL τ 8 i := by
            show gL (uL τ1 8 (c + f) (lN (NV (c + f)))) 8 i = _
            rw [gL_uL]
            by_cases q : i = c + f
            · rw [if_pos ⟨rfl, q⟩, if_pos q]
            · rw [if_neg (fun z => q z.2), if_neg q]
              show τ1.2.1 8 i = _
              rw [hM2]
              rfl
          have k9 : gI (uI (kpM τ1 (c + f) (NV (c + f)) (nI (10 + f))) 14 l (nI (f + 1))) 9 i = if i = c + f then nI (10 + f) else gI τ 9 i := by
            unfold kpM
            rw [gI_uI, if_neg (by omega), gI_uI, if_neg (by omega), gI_uI]
            by_cases q : i = c + f
            · rw [if_pos ⟨rfl, q⟩, if_pos q]
            · rw [if_neg (fun z => q z.2), if_neg q, gI_uL, hM 9 i (by omega) (by omega)]
          rw [k8, k9]
          by_cases q : i = c + f
          · rw [if_pos q, if_pos q, q, hNA]; exact ⟨rfl, rfl⟩
          · rw [if_neg q, if_neg q]
            exact a6 i (by omega)
      · have hq1 : 1 ≤ q ∧ 2 ≤ q := by omega
        have hs4 : s ≤ 400 := by omega
        obtain ⟨g1, g2, gq⟩ := hT z
        obtain ⟨L, L1, L2, L3⟩ := gq.1 hq1.1
        obtain ⟨t, t1, t2, t3⟩ := gq.2.1 hq1.2
        have hx : ∃ x, x ≤ c ∧ (x ≠ 0 → k = 4) ∧ gI σ (g + 4) f = (if x = 0 then -1 else nI (x - 1)) ∧ gI τ 17 (6 * l + f) = (if x = 0 then -1 else nI (x - 1)) := by
          rcases hkq with ⟨y, _⟩ | ⟨y, y2⟩
          · obtain ⟨b1, b2⟩ := gq.2.2.1 y
            exact ⟨0, Nat.zero_le _, fun z => absurd rfl z, by rw [if_pos rfl]; exact b1, by rw [if_pos rfl]; exact b2⟩
          · obtain ⟨x, b1, b2, b3⟩ := gq.2.2.2 y
            exact ⟨x + 1, by omega, fun _ => y2, by rw [if_neg (by omega), Nat.add_sub_cancel]; exact b2, by rw [if_neg (by omega), Nat.add_sub_cancel]; exact b3⟩
        obtain ⟨x, x1, x2, x3, x4⟩ := hx
        have hX : ∀ p, ∃ cs : List (Nat × Int32), p < k → ∃ a, a + cs.length ≤ s ∧ gI σ (g + 5) (4 * f + p) = nI a ∧ gI σ (g + 6) (4 * f + p) = nI (a + cs.length) ∧ CC cs a (gI σ (g + 7)) (gI σ (g + 8)) ∧ gI τ1 18 (w + p) = nI (420 * l + a) ∧ gI τ1 18 (w + p + 1) = nI (420 * l + (a + cs.length)) ∧ CM cs (420 * l + a) (gI τ1 20) (gI τ1 21) ∧ wfC c cs 0 := fun p => by
          by_cases hp : p < k
          · obtain ⟨cs, a, b1, b2, b3, b4, b5, b6, b7, b8, b9, b10⟩ := g2 p hp
            rw [hw] at b6 b9
            have e20 : gI τ1 20 = gI τ 20 := funext fun j => hM 20 j (by omega) (by omega)
            have e21 : gI τ1 21 = gI τ 21 := funext fun j => hM 21 j (by omega) (by omega)
            refine ⟨cs, fun _ => ⟨a, b1, b3, b4, b5, (hM 18 _ (by omega) (by omega)).trans b6, ?_, by rw [e20, e21]; exact b7, b8⟩⟩
            by_cases hp1 : p + 1 < k
            · exact (hM 18 _ (by omega) (by omega)).trans (b9 hp1)
            · rw [b10 (by omega)]
              by_cases hk3 : k = 3
              · rw [show w + p + 1 = w + 3 by omega, hM 18 _ (by omega) (by omega)]
                exact h18 hk3
              · rw [show w + p + 1 = w + 4 by omega]
                exact hv4
          · exact ⟨[], fun z => absurd z hp⟩
        obtain ⟨X, hX⟩ := Classical.axiomOfChoice hX
        refine Tw_form (L := L) (t := t) (x := x) (X := X) (σ := σ) (τ := τ1) ?_ hl hs4 L1 t1 x1 (fun p hp hq => ?_) L2 t2 x3 ((hM 15 _ (by omega) (by omega)).trans L3) ((hM 16 _ (by omega) (by omega)).trans t3) ((hM 17 _ (by omega) (by omega)).trans x4) gI_s gI_s (fun i j h1 h2 h3 => ?_) (fun i j h1 h2 h3 => kM i j (by omega) (by omega) h3)
        · exact Tw_fs g1 hg hl d5 (by omega) (Nat.le_refl _) hs4 ⟨fun _ _ _ _ _ _ _ => rfl, rfl⟩ ⟨fun i j h1 h2 h3 => hM i j (fun z => h1 (by unfold okE; omega)) (by omega), hM2⟩
        · rw [hw]
          exact hX p (by
            rcases hkq with ⟨_, y⟩ | ⟨_, y⟩
            · rcases hq with y3 | y3
              · omega
              · have := x2 y3; omega
            · omega)
        · rw [gI_uI, if_neg h3, hC i j (by omega)]
    · rw [if_neg h4, if_neg h4, n13, if_neg (show ¬ nI 2 ≤ 0 by decide), show gR (flC σ 2 (sq u e P)) 2 6 = g from h26, chk_pos hg]
      exact ⟨_, _, rfl, rfl, Or.inl ((hBm.fault (f := 2) (Or.inr rfl)).c fun σf hf => hf.wI (by omega) (fun z => by omega) (fun z => by omega) (fun _ => by omega))⟩
  · rw [if_neg k4, if_neg k4, n13, if_neg (show ¬ nI 1 ≤ 0 by decide), show gR (flC σ 1 (sq u e P)) 2 6 = g from h26, chk_pos hg]
    exact ⟨_, _, rfl, rfl, Or.inl ((hBm.fault (f := 1) (Or.inl rfl)).c fun σf hf => hf.wI (by omega) (fun z => by omega) (fun z => by omega) (fun _ => by omega))⟩
end FZ
