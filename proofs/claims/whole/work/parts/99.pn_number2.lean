/-! a number told, on both sides -/
section EN9
variable {u : Nat → Nat} {e n0 g l P fl : Nat} {σ0 τ0 σ τ : Wd}
/-- what a number told leaves -/
def NuE (u : Nat → Nat) (e n0 g l P fl lo hi j R : Nat) (σ0 τ0 σ τ σ' τ' : Wd) : Prop := ∃ fl' n, Bs u e n0 g l (P + 3) fl' 0 σ0 τ0 σ' τ' ∧ (fl' = 0 → fl = 0 ∧ lo ≤ n ∧ n ≤ hi) ∧ gI σ' g j = nI n ∧ gI τ' R l = nI n ∧ (∀ c k, ¬ (c = 2 ∧ (k = 9 ∨ k = 10)) → ¬ (c = 6 ∧ k = 4) → ¬ (c = g ∧ k = j) → gI σ' c k = gI σ c k) ∧ σ'.2 = σ.2 ∧ (∀ c k, ¬ (c = 0 ∧ (k = 11 ∨ k = 15 ∨ k = 16)) → ¬ (c = R ∧ k = l) → gI τ' c k = gI τ c k) ∧ τ'.2 = τ.2
def tlM (τ : Wd) (lo hi R : Nat) : Option Wd := bnd2 (M_X9_toldInt τ (nI lo) (nI hi)) fun r67 s_67 => chk (ib (gI τ 0 19) 2) (lt (uI s_67 R (ix (gI τ 0 19)) r67) fun s_70 => some s_70)
theorem tlM_F {τf : Wd} {lo hi R : Nat} {v : Int32} (h : MFT l τ0 τf) (hR : R = 10 ∨ R = 11 ∨ R = 19) : MFT l τ0 (uI τf R l v) := h.wI (by unfold okm; omega) (fun z => by omega)
theorem tell_number (he : e ≤ 2000) {K lo hi j R : Nat} (hK : nK K lo hi j R) (hB : Bs u e n0 g l P fl 0 σ0 τ0 σ τ) (hk : kTk u e P = K) : ∃ σ' τ', M_X3_tellNumber σ (nI (ck K)) = some σ' ∧ tlM τ lo hi R = some τ' ∧ (FLT g l σ0 τ0 σ' τ' ∨ NuE u e n0 g l P fl lo hi j R σ0 τ0 σ τ σ' τ') := by
  have hg := hB.2.1.2.2.2.2.2.1
  have hl := hB.2.2.1.2.2.2.2.1
  have h19 := hB.2.2.1.2.2.2.1
  have hR : R = 10 ∨ R = 11 ∨ R = 19 := by unfold nK at hK; omega
  have hKV : VK K ∧ K ≠ 0 := by unfold nK at hK; exact ⟨by omega, by omega⟩
  have eC : M_X3_tellNumber σ (nI (ck K)) = bnd1 (M_X3_take σ (nI (ck K))) fun s_26 => bnd1 (M_X6_start s_26) fun r33 => bnd1 (M_X6_number s_26) fun r41 => bnd1 (M_X3_take s_26 (3 : Int32)) fun s_47 => bnd1 (M_X3_take s_47 (59 : Int32)) fun s_53 => tlC s_53 (nI (ck K)) r33 r41 := by
    unfold M_X3_tellNumber
    rcases hK with ⟨rfl, _⟩ | ⟨rfl, _⟩ | ⟨rfl, _⟩ <;> rfl
  have tk := b_take hB hKV.1 hKV.2
  have go := b_goes hB
  rw [if_pos hk] at tk
  have eM : ∀ τa τb r, M_X9_goesOn τ = some τa → M_X9_bounded τa (nI lo) (nI hi) = some (r, τb) → ∀ τc, M_X9_must τb 4 = some τc → tlM τ lo hi R = some (uI τc R l r) := fun τa τb r h1 h2 τc h3 => by
    unfold tlM M_X9_toldInt
    rw [h1, bnd1_some, h2, bnd2_some, h3, bnd1_some, bnd2_some, h19, chk_pos ((ib_nI (by omega)).mpr (by omega)), ix_nI (by omega)]
    rfl
  by_cases h4 : P < 400
  · rw [if_pos h4] at tk go
    have hB1 := hB.adv (by rw [hk]; exact hKV.2) h4
    sorry
  · rw [if_neg h4] at tk go
    obtain ⟨σf, τf, q1, q2, q3, q4, q5, q6⟩ := hB.fault (f := 2) (Or.inr rfl)
    obtain ⟨r33, t1⟩ := F_start q5
    obtain ⟨r41, t2⟩ := F_number q5
    obtain ⟨σ', t3, t4⟩ := F_tl q5 (nI (ck K)) r33 r41
    refine ⟨σ', _, ?_, eM _ _ _ go (G_bounded q6 _ _) _ (G_must q6 _), Or.inl ⟨σf, τf, q1, q2, q3, q4, t4, tlM_F (lo := lo) (hi := hi) q6 hR⟩⟩
    rw [eC, tk, bnd1_some, t1, bnd1_some, t2, bnd1_some, F_take q5, bnd1_some, F_take q5, bnd1_some, t3]
end EN9
