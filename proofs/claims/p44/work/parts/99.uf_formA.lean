/-! the text told: a form's first half laid -/
theorem TP.formA {ts : List Int32} {σ0 τ0 σ τ : Wd} {f8 : Nat → Int32} {p q : Int32} {f k nc sg tb : Nat} {xa xb xc : Nat × Nat × Nat} (h : TP ts σ0 τ0 σ τ) (hf : f < 4) (h4 : nc ≤ 4) (hn : tdCel p = nI nc) (ht : ts.length + 160 ≤ 2000) (hsg : sgF1 (f8 f) = nI sg) (hs : sg < 128) (htb : hwB (f8 f) (tdCel p) = nI tb) (hb : tb < 20)
    (ha : ∀ {ts : List Int32} {σ τ : Wd}, TP ts σ0 τ0 σ τ → ts.length + 60 ≤ 2000 → ∃ σ' τ', M_L_term σ (f8 f >>> ((2 : Int32) &&& 31)) (nI nc) = some σ' ∧ TP (ts ++ tmX xa) σ0 τ0 σ' τ')
    (hbb : ∀ {ts : List Int32} {σ τ : Wd}, TP ts σ0 τ0 σ τ → ts.length + 60 ≤ 2000 → ∃ σ' τ', M_L_term σ (((f8 f * (3 : Int32)) + p) >>> ((3 : Int32) &&& 31)) (nI nc) = some σ' ∧ TP (ts ++ tmX xb) σ0 τ0 σ' τ')
    (hc : ∀ {ts : List Int32} {σ τ : Wd}, TP ts σ0 τ0 σ τ → ts.length + 60 ≤ 2000 → ∃ σ' τ', M_L_term σ (((f8 f * (5 : Int32)) + q) >>> ((2 : Int32) &&& 31)) (nI nc) = some σ' ∧ TP (ts ++ tmX xc) σ0 τ0 σ' τ') : ∃ σ' τ', TP (ts ++ foL f sg tb xa xb xc) σ0 τ0 σ' τ' ∧ M_told_F f8 p q (k + 1) f σ = (if hwC (f8 f) (tdCel p) < 0 then (bnd1 (M_L_sign σ' (59 : Int32)) fun s_567 => M_told_F f8 p q k (f + 1) s_567) else (bnd1 (M_L_put σ' (5 : Int32) (543517811 : Int32) (1694498816 : Int32) (0 : Int32) (0 : Int32) (0 : Int32)) fun s_525 => bnd1 (M_L_cell s_525 (hwC (f8 f) (tdCel p))) fun s_533 => bnd1 (M_L_term s_533 (((f8 f * (7 : Int32)) + p) >>> ((2 : Int32) &&& 31)) (tdCel p)) fun s_560 => bnd1 (M_L_sign s_560 (59 : Int32)) fun s_567 => M_told_F f8 p q k (f + 1) s_567)) := by
  have a1 := tm_l (u := xa.1) (d := xa.2.1) (k := xa.2.2)
  have a2 := tm_l (u := xb.1) (d := xb.2.1) (k := xb.2.2)
  have p1 := pw_l (m := 6) (a := 1718579821) (b := 543555584) (c := 0)
  have p2 := pw_l (m := 6) (a := 544105829) (b := 1685258240) (c := 0)
  have p3 := pw_l (m := 5) (a := 544433524) (b := 1929379840) (c := 0)
  have l1 : (tmX xa).length ≤ 24 := a1
  have l2 : (tmX xb).length ≤ 24 := a2
  obtain ⟨s1, t1, e1, h1⟩ := h.words 6 1718579821 543555584 0 (by decide) (by omega)
  obtain ⟨s2, t2, e2, h2⟩ := h1.sign (b := 97 + f) (by omega) (by simp only [List.length_append]; omega)
  obtain ⟨s3, t3, e3, h3⟩ := h2.words 6 544105829 1685258240 0 (by decide) (by simp only [List.length_append, sg_l]; omega)
  obtain ⟨s4, t4, e4, h4'⟩ := ha h3 (by simp only [List.length_append, sg_l]; omega)
  obtain ⟨s5, t5, e5, h5⟩ := h4'.sign (b := sg) hs (by simp only [List.length_append, sg_l]; omega)
  obtain ⟨s6, t6, e6, h6⟩ := hbb h5 (by simp only [List.length_append, sg_l]; omega)
  obtain ⟨s7, t7, e7, h7⟩ := h6.words 5 544433524 1929379840 0 (by decide) (by simp only [List.length_append, sg_l]; omega)
  obtain ⟨s8, t8, e8, h8⟩ := h7.cellL (k := tb) hb (by simp only [List.length_append, sg_l]; omega)
  obtain ⟨s9, t9, e9, h9⟩ := hc h8 (by simp only [List.length_append, sg_l, ce_l]; omega)
  refine ⟨s9, t9, ?_, ?_⟩
  · unfold foL
    simp only [List.append_assoc] at h9 ⊢
    exact h9
  · have e97 : (97 : Int32) + nI f = nI (97 + f) := nI_add 97 f
    rw [M_told_F, show M_L_put σ 6 1718579821 543555584 0 0 0 = _ from e1, bnd1_some, e97, e2, bnd1_some, show M_L_put s2 6 544105829 1685258240 0 0 0 = _ from e3, bnd1_some, hn, e4, bnd1_some, hsg, e5, bnd1_some, e6, bnd1_some, show M_L_put s6 5 544433524 1929379840 0 0 0 = _ from e7, bnd1_some, ← hn, htb, e8, bnd1_some, hn, e9, bnd1_some]
