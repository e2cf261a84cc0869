/-! a number told, on both sides -/
section EN9
variable {u : Nat → Nat} {e n0 g l P fl : Nat} {σ0 τ0 σ τ : Wd}
/-- what a number told leaves -/
def NuE (u : Nat → Nat) (e n0 g l P fl lo hi j R : Nat) (σ0 τ0 σ τ σ' τ' : Wd) : Prop := ∃ fl' n, Bs u e n0 g l (P + 3) fl' 0 σ0 τ0 σ' τ' ∧ (fl' = 0 → fl = 0 ∧ lo ≤ n ∧ n ≤ hi) ∧ gI σ' g j = nI n ∧ gI τ' R l = nI n ∧ (∀ c k, ¬ (c = 2 ∧ (k = 9 ∨ k = 10)) → ¬ (c = 6 ∧ k = 4) → ¬ (c = g ∧ k = j) → gI σ' c k = gI σ c k) ∧ σ'.2 = σ.2 ∧ (∀ c k, ¬ (c = 0 ∧ (k = 11 ∨ k = 15 ∨ k = 16)) → ¬ (c = R ∧ k = l) → gI τ' c k = gI τ c k) ∧ τ'.2 = τ.2
def tlM (τ : Wd) (lo hi R : Nat) : Option Wd := bnd2 (M_X9_toldInt τ (nI lo) (nI hi)) fun r67 s_67 => chk (ib (gI τ 0 19) 2) (lt (uI s_67 R (ix (gI τ 0 19)) r67) fun s_70 => some s_70)
theorem tlM_F {τf : Wd} {lo hi R : Nat} {v : Int32} (h : MFT l τ0 τf) (hR : R = 10 ∨ R = 11 ∨ R = 19) : MFT l τ0 (uI τf R l v) := h.wI (by unfold okm; omega) (fun z => by omega)
theorem tell_number (he : e ≤ 2000) {K lo hi j R : Nat} (hK : nK K lo hi j R) (hB : Bs u e n0 g l P fl 0 σ0 τ0 σ τ) (hk : kTk u e P = K) : ∃ σ' τ', M_X3_tellNumber σ (nI (ck K)) = some σ' ∧ tlM τ lo hi R = some τ' ∧ (FLT g l σ0 τ0 σ' τ' ∨ NuE u e n0 g l P fl lo hi j R σ0 τ0 σ τ σ' τ') := by
  have hg := hB.2.1.2.2.2.2.2.1
  have hl := hB.2.2.1.2.2.2.2.1
  have h19 := hB.2.2.1.2.2.2.1
  have hR : R = 10 ∨ R = 11 ∨ R = 19 := by unfold nK at hK; omega
  have hKV : VK K ∧ K ≠ 0 := by unfold nK at hK; exact ⟨by omega, by omega⟩
  have eC : M_X3_tellNumber σ (nI (ck K)) = bnd1 (M_X3_take σ (nI (ck K))) fun s_26 => bnd1 (M_X6_start s_26) fun r33 => bnd1 (M_X6_number s_26) fun r41 => bnd1 (M_X3_take s_26 (3 : Int32)) fun s_47 => bnd1 (M_X3_take s_47 (59 : Int32)) fun s_53 => tlC s_53 (nI (ck K)) r33 r41 := by
    unfold M_X3_tellNumber
    rcases hK with ⟨rfl, _⟩ | ⟨rfl, _⟩ | ⟨rfl, _⟩ <;> rfl
  have tk := b_take hB hKV.1 hKV.2
  have go := b_goes hB
  rw [if_pos hk] at tk
  have eM : ∀ τa τb r, M_X9_goesOn τ = some τa → M_X9_bounded τa (nI lo) (nI hi) = some (r, τb) → ∀ τc, M_X9_must τb 4 = some τc → tlM τ lo hi R = some (uI τc R l r) := fun τa τb r h1 h2 τc h3 => by
    unfold tlM M_X9_toldInt
    rw [h1, bnd1_some, h2, bnd2_some, h3, bnd1_some, bnd2_some, h19, chk_pos ((ib_nI (by omega)).mpr (by omega)), ix_nI (by omega)]
    rfl
  have hK0 : K ≠ 0 := hKV.2
  clear hKV
  by_cases h4 : P < 400
  · rw [if_pos h4] at tk go
    have hB1 := hB.adv (by rw [hk]; exact hK0) h4
    obtain ⟨st, _⟩ := b_start hB1
    obtain ⟨_, _, _, r4, _, m4, _, m8⟩ := hB1.row
    have h64 := hB1.2.1.2.2.1
    have h11 := hB1.2.2.1.2.1
    have h13 := hB1.2.2.1.2.2.1
    have tk3 := b_take hB1 (k := 2) (by decide) (by decide)
    have tk3 : M_X3_take _ 3 = _ := tk3
    have is2 := b_is hB1 (k := 2) (by decide)
    have is2 : M_X9_is _ 2 = _ := is2
    rw [eC, tk, bnd1_some, st, bnd1_some]
    have hnm : ∃ r41, M_X6_number (uI σ 6 4 (nI (P + 1))) = some r41 ∧ (kTk u e (P + 1) = 2 → r41 = nI (vTk u e (P + 1))) := by
      unfold M_X6_number
      rw [h64, chk_pos ((ib_nI (by omega)).mpr (by omega)), ix_nI (by omega)]
      exact ⟨_, rfl, fun z => lN32 (r4 z).1⟩
    obtain ⟨r41, n1, n2⟩ := hnm
    rw [n1, bnd1_some]
    by_cases k2 : kTk u e (P + 1) = 2
    · have n2 := n2 k2
      have hv := (r4 k2).2
      have m8 := m8 k2
      subst n2
      rw [if_pos k2] at tk3
      rw [decide_eq_true k2] at is2
      generalize hn : vTk u e (P + 1) = n at *
      -- the later fault, if the number is out of its range
      have hw : ∃ fl' σw τw, Bs u e n0 g l (P + 1) fl' 1 σ0 τ0 σw τw ∧ (fl' = 0 → fl = 0 ∧ lo ≤ n ∧ n ≤ hi) ∧ (∀ τx, M_X9_goesOn τw = some τx → M_X9_bounded (uI τ 0 11 (nI (P + 1))) (nI lo) (nI hi) = some (nI n, τx)) ∧ ((lo ≤ n ∧ n ≤ hi ∧ σw = uI σ 6 4 (nI (P + 1))) ∨ (¬ (lo ≤ n ∧ n ≤ hi) ∧ σw = ltC (uI σ 6 4 (nI (P + 1))) fl 5 (sq u e (P + 1)))) ∧ LtC (uI σ 6 4 (nI (P + 1))) σw ∧ LtM (uI τ 0 11 (nI (P + 1))) τw := by
        have hlo : lo ≤ 9999 ∧ hi ≤ 9999 := by unfold nK at hK; omega
        unfold M_X9_bounded M_X9_bounded_J42 M_X9_bounded_J51
        simp only [lt_eq]
        rw [h13, if_neg (show ¬ (0 : Int32) < 0 by decide), is2, bnd1_some, if_pos (show boI true ≠ 0 by decide), h11, chk_pos ((ib_nI (by omega)).mpr (by omega)), ix_nI (by omega), m8]
        by_cases hr : lo ≤ n ∧ n ≤ hi
        · refine ⟨fl, _, _, hB1.pend, fun z => ⟨z, hr⟩, fun τx ht => ?_, Or.inl ⟨hr.1, hr.2, rfl⟩, ⟨fun _ _ _ => rfl, rfl⟩, ⟨fun _ _ _ => rfl, rfl⟩⟩
          rw [if_neg (fun z => by have := (nI_ltI (by omega) (by omega)).mp z; omega), if_pos ((nI_leI (by omega) (by omega)).mpr hr.2), ht, bnd1_some]
        · have hL := hB1.late (f := 5) (j := P + 1) (pd' := 1) (by decide) (by omega) (by omega) (by omega)
          have hW : M_X9_wrong (uI τ 0 11 (nI (P + 1))) 5 (nI (P + 1)) = some (ltM (uI τ 0 11 (nI (P + 1))) fl 5 (sq u e (P + 1))) := m_wrong (f := 5) (by omega) h13 hB1.2.2.2.1.2.1 hB1.2.2.2.1.2.2.1 m4 hB1.1.1 he (fun z => by
            obtain ⟨j, j1, _, j3⟩ := hB1.2.2.2.1.2.2.2 z
            exact ⟨j, by omega, j3⟩)
          refine ⟨_, _, _, hL, fun z => ?_, fun τx ht => ?_, Or.inr ⟨hr, rfl⟩, LtC_mk, LtM_mk⟩
          · by_cases q : fl = 0
            · rw [if_pos q] at z; omega
            · rw [if_neg q] at z; omega
          · rw [hW, bnd1_some, ht, bnd1_some]
            by_cases a : n < lo
            · rw [if_pos ((nI_ltI (by omega) (by omega)).mpr a)]
            · rw [if_neg (fun z => a ((nI_ltI (by omega) (by omega)).mp z)), if_neg (fun z => by have := (nI_leI (by omega) (by omega)).mp z; omega)]
      obtain ⟨fl', σw, τw, w1, w2, w3, w4, w5, w6⟩ := hw
      have gow := b_goes w1
      have w3 := w3 _ gow
      rw [tk3, bnd1_some]
      by_cases h5 : P + 1 < 400
      · rw [if_pos h5] at w3 ⊢
        have kn : kTk u e (P + 1) ≠ 0 := by rw [k2]; decide
        have hB2 := hB1.adv kn h5
        have wB2 := w1.adv kn h5
        have tk4 := b_take hB2 (k := 4) (by decide) (by decide)
        have tk4 : M_X3_take _ 59 = _ := tk4
        have mu4 := b_must wB2 (k := 4) (by decide)
        have mu4 : M_X9_must _ 4 = _ := mu4
        rw [tk4, bnd1_some]
        have eM := fun τc z => eM _ _ _ go w3 τc (mu4.trans z)
        by_cases k4 : kTk u e (P + 1 + 1) = 4
        · by_cases h6 : P + 1 + 1 < 400
          · rw [if_pos k4, if_pos h6] at eM ⊢
            have kn2 : kTk u e (P + 1 + 1) ≠ 0 := by rw [k4]; decide
            have hB3 := hB2.adv kn2 h6
            have wB3 := wB2.adv kn2 h6
            have eM := eM _ rfl
            rw [tl_ok hK hg hB3.2.1.2.2.2.2.1 hB3.2.2.2.1.1 hB3.2.2.2.1.2.2.1 hv]
            have eC2 : (if lo ≤ n ∧ n ≤ hi then uI (uI (uI (uI σ 6 4 (nI (P + 1))) 6 4 (nI (P + 1 + 1))) 6 4 (nI (P + 1 + 1 + 1))) g j (nI n) else ltC (uI (uI (uI (uI σ 6 4 (nI (P + 1))) 6 4 (nI (P + 1 + 1))) 6 4 (nI (P + 1 + 1 + 1))) g j (nI n)) fl 5 (sq u e (P + 1))) = uI (uI (uI σw 6 4 (nI (P + 1 + 1))) 6 4 (nI (P + 1 + 1 + 1))) g j (nI n) := by
              rcases w4 with ⟨a, b, c⟩ | ⟨a, c⟩
              · rw [if_pos ⟨a, b⟩, c]
              · rw [if_neg a, c, ltC_uI (by omega), ltC_uI (by omega), ltC_uI (by omega)]
            rw [eC2]
            have hj : j < 3 := by unfold nK at hK; omega
            refine ⟨_, _, rfl, eM, Or.inr ⟨fl', n, (wB3.wC (Or.inr (Or.inr (Or.inr ⟨Nat.le_refl _, by omega⟩))) (fun z => by omega) (fun z => by omega)).wM (by unfold okm; omega) (fun z => by omega), w2, gI_s, gI_s, fun c k h1 h2 h3 => ?_, w5.2, fun c k h1 h2 => ?_, w6.2⟩⟩
            · rw [gI_uI, if_neg h3, gI_uI, if_neg h2, gI_uI, if_neg h2, w5.1 c k h1, gI_uI, if_neg h2]
            · rw [gI_uI, if_neg h2, gI_uI, if_neg (by omega), gI_uI, if_neg (by omega), w6.1 c k (by omega), gI_uI, if_neg (by omega)]
          · rw [if_pos k4, if_neg h6] at eM ⊢
            obtain ⟨σf, τf, q1, q2, q3, q4, q5, q6⟩ := FLT_mk hB2 wB2 (f := 2) (Or.inr rfl)
            obtain ⟨σ', t3, t4⟩ := F_tl q5 (nI (ck K)) (nI (sq u e (P + 1))) (nI n)
            exact ⟨σ', _, t3, eM _ rfl, Or.inl ⟨σf, τf, q1, q2, q3, q4, t4, tlM_F (lo := lo) (hi := hi) q6 hR⟩⟩
        · rw [if_neg k4] at eM ⊢
          obtain ⟨σf, τf, q1, q2, q3, q4, q5, q6⟩ := FLT_mk hB2 wB2 (f := 1) (Or.inl rfl)
          obtain ⟨σ', t3, t4⟩ := F_tl q5 (nI (ck K)) (nI (sq u e (P + 1))) (nI n)
          exact ⟨σ', _, t3, eM _ rfl, Or.inl ⟨σf, τf, q1, q2, q3, q4, t4, tlM_F (lo := lo) (hi := hi) q6 hR⟩⟩
      · rw [if_neg h5] at w3 ⊢
        obtain ⟨σf, τf, q1, q2, q3, q4, q5, q6⟩ := FLT_mk hB1 w1 (f := 2) (Or.inr rfl)
        obtain ⟨σ', t3, t4⟩ := F_tl q5 (nI (ck K)) (nI (sq u e (P + 1))) (nI n)
        rw [F_take q5, bnd1_some]
        exact ⟨σ', _, t3, eM _ _ _ go w3 _ (G_must q6 _), Or.inl ⟨σf, τf, q1, q2, q3, q4, t4, tlM_F (lo := lo) (hi := hi) q6 hR⟩⟩
    · rw [if_neg k2] at tk3
      rw [decide_eq_false k2] at is2
      obtain ⟨σf, τf, q1, q2, q3, q4, q5, q6⟩ := hB1.fault (f := 1) (Or.inl rfl)
      obtain ⟨_, f1⟩ := b_fail hB1 (f := 1) (Or.inl rfl)
      have f1 : M_X9_fail _ 1 = _ := f1
      have bd : M_X9_bounded (uI τ 0 11 (nI (P + 1))) (nI lo) (nI hi) = some (nI lo, flM (uI τ 0 11 (nI (P + 1))) 1 (sq u e (P + 1))) := by
        unfold M_X9_bounded M_X9_bounded_J15
        rw [h13, if_neg (show ¬ (0 : Int32) < 0 by decide), is2, bnd1_some, if_neg (show ¬ boI false ≠ 0 by decide), f1, bnd1_some]
      obtain ⟨σ', t3, t4⟩ := F_tl q5 (nI (ck K)) (nI (sq u e (P + 1))) r41
      rw [tk3, bnd1_some, F_take q5, bnd1_some]
      exact ⟨σ', _, t3, eM _ _ _ go bd _ (G_must q6 _), Or.inl ⟨σf, τf, q1, q2, q3, q4, t4, tlM_F (lo := lo) (hi := hi) q6 hR⟩⟩
  · rw [if_neg h4] at tk go
    obtain ⟨σf, τf, q1, q2, q3, q4, q5, q6⟩ := hB.fault (f := 2) (Or.inr rfl)
    obtain ⟨r33, t1⟩ := F_start q5
    obtain ⟨r41, t2⟩ := F_number q5
    obtain ⟨σ', t3, t4⟩ := F_tl q5 (nI (ck K)) r33 r41
    refine ⟨σ', _, ?_, eM _ _ _ go (G_bounded q6 _ _) _ (G_must q6 _), Or.inl ⟨σf, τf, q1, q2, q3, q4, t4, tlM_F (lo := lo) (hi := hi) q6 hR⟩⟩
    rw [eC, tk, bnd1_some, t1, bnd1_some, t2, bnd1_some, F_take q5, bnd1_some, F_take q5, bnd1_some, t3]
end EN9
