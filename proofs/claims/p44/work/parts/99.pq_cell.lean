/-! a cell told: what is left of it, behind each step -/
def tc3 (σ : Wd) : Option Wd := bnd1 (M_X3_take σ (59 : Int32)) fun s_60 => chk (famT (gR s_60 2 6)) (lt (uI s_60 (gR s_60 2 6) 3 ((gI s_60 (gR s_60 2 6) 3) + (1 : Int32))) fun s_73 => some s_73)
def tc2 (σ : Wd) (v1_7 : Int32) : Option Wd := chk (famT (gR σ 2 6)) (bnd1 (M_X6_number σ) fun r48 => chk (ib v1_7 6) (lt (uI σ ((gR σ 2 6) + 1) (ix v1_7) r48) fun s_51 => bnd1 (M_X3_take s_51 (3 : Int32)) fun s_54 => tc3 s_54))
def tc1 (σ : Wd) (v1_7 : Int32) : Option Wd := bnd1 (M_X3_keepName σ v1_7) fun s_28 => bnd1 (M_X3_take s_28 (2 : Int32)) fun s_33 => tc2 s_33 v1_7
def mc3 (s_37 : Wd) (r1 : Int32) : Option Wd := if (gI s_37 0 13) ≤ 0 then (chk (ib (gI s_37 0 19) 2) (bnd1 (M_X9_keepsName s_37 r1 (gI s_37 12 (ix (gI s_37 0 19)))) fun s_59 => chk (ib (gI s_59 0 19) 2) (chk (ib (gI s_59 0 19) 2) (lt (uI s_59 12 (ix (gI s_59 0 19)) ((gI s_59 12 (ix (gI s_59 0 19))) + (1 : Int32))) fun s_74 => some s_74)))) else (some s_37)
def mc2 (s_1 s_31 : Wd) (r1 r31 : Int32) : Option Wd := chk (ib (((6 : Int32) * (gI s_1 0 19)) + (gI s_1 12 (ix (gI s_1 0 19)))) 12) (lt (uI s_31 13 (ix (((6 : Int32) * (gI s_1 0 19)) + (gI s_1 12 (ix (gI s_1 0 19))))) r31) fun s_34 => bnd1 (M_X9_must s_34 (4 : Int32)) fun s_37 => mc3 s_37 r1)
def mc1 (s_1 : Wd) (r1 : Int32) : Option Wd := chk (ib (gI s_1 0 19) 2) (bnd2 (M_X9_bounded s_1 (0 : Int32) (9999 : Int32)) fun r31 s_31 => mc2 s_1 s_31 r1 r31)
section CEF
variable {g : Nat} {σ0 σ : Wd}
theorem F_tc3 (h : CFT g σ0 σ) : ∃ σ', tc3 σ = some σ' ∧ CFT g σ0 σ' := by
  have hg := h.2.2.2.2.2.1
  unfold tc3
  rw [F_take h, bnd1_some, h.2.2.2.2.1, chk_pos hg]
  exact ⟨_, rfl, h.wI (by omega) (fun z => by omega) (fun z => by omega) (fun _ => by omega)⟩
theorem F_tc2 (h : CFT g σ0 σ) {c : Nat} (hc : c < 6) : ∃ σ', tc2 σ (nI c) = some σ' ∧ CFT g σ0 σ' := by
  have hg := h.2.2.2.2.2.1
  obtain ⟨r, hr⟩ := F_number h
  unfold tc2
  simp only [lt_eq]
  have h1 : CFT g σ0 (uI σ (g + 1) c r) := h.wI (by omega) (fun z => by omega) (fun z => by omega) (fun _ => by omega)
  rw [h.2.2.2.2.1, chk_pos hg, hr, bnd1_some, chk_pos ((ib_nI (by omega)).mpr hc), ix_nI (by omega), F_take h1, bnd1_some]
  exact F_tc3 h1
theorem F_tc1 (h : CFT g σ0 σ) {c : Nat} (hc : c < 6) : ∃ σ', tc1 σ (nI c) = some σ' ∧ CFT g σ0 σ' := by
  unfold tc1
  rw [F_keep h, bnd1_some, F_take h, bnd1_some]
  exact F_tc2 h hc
end CEF
section CEG
variable {l : Nat} {τ0 τ : Wd}
theorem G_mc2 (h : MFT l τ0 τ) {τs : Wd} {c : Nat} (hc : c < 6) (h19 : gI τs 0 19 = nI l) (h12 : gI τs 12 l = nI c) (r1 r31 : Int32) : ∃ τ', mc2 τs τ r1 r31 = some τ' ∧ MFT l τ0 τ' := by
  have hl := h.2.2.2.2.2.1
  unfold mc2 mc3
  simp only [lt_eq]
  rw [h19, ix_nI (by omega), h12, show (6 : Int32) = nI 6 from rfl, pk_mul, nI_add, chk_pos ((ib_nI (by omega)).mpr (by omega)), ix_nI (by omega)]
  have h1 : MFT l τ0 (uI τ 13 (6 * l + c) r31) := h.wI (by unfold okm; omega) (fun z => by omega)
  rw [G_must h1, bnd1_some, if_neg (pos_ne h1.2.1).2]
  exact ⟨_, rfl, h1⟩
theorem G_mc1 (h : MFT l τ0 τ) {c : Nat} (hc : c < 6) (h12 : gI τ 12 l = nI c) (r1 : Int32) : ∃ τ', mc1 τ r1 = some τ' ∧ MFT l τ0 τ' := by
  have hl := h.2.2.2.2.2.1
  have h19 := h.2.2.2.2.1
  unfold mc1
  rw [G_bounded h, bnd2_some, h19, chk_pos ((ib_nI (by omega)).mpr hl)]
  exact G_mc2 h hc h19 h12 _ _
end CEG
/-- a number that is right -/
theorem b_bounded {u : Nat → Nat} {e n0 g l P fl pd lo hi : Nat} {σ0 τ0 σ τ : Wd} (h : Bs u e n0 g l P fl pd σ0 τ0 σ τ) (hlo : lo = 0) (hhi : hi = 9999) : M_X9_bounded τ (nI lo) (nI hi) = some (if kTk u e P = 2 then (nI (vTk u e P), if P < 400 then uI τ 0 11 (nI (P + 1)) else flM τ 2 (sq u e P)) else (nI lo, flM τ 1 (sq u e P))) := by
  obtain ⟨_, _, _, r4, _, _, _, m8⟩ := h.row
  have is2 := b_is h (k := 2) (by decide)
  have is2 : M_X9_is _ 2 = _ := is2
  have h11 := h.2.2.1.2.1
  have h13 := h.2.2.1.2.2.1
  have hP := h.1.2.1
  obtain ⟨_, f1⟩ := b_fail h (f := 1) (Or.inl rfl)
  have f1 : M_X9_fail _ 1 = _ := f1
  unfold M_X9_bounded M_X9_bounded_J15 M_X9_bounded_J51
  simp only [lt_eq]
  rw [h13, if_neg (show ¬ (0 : Int32) < 0 by decide), is2, bnd1_some]
  by_cases k2 : kTk u e P = 2
  · have := (r4 k2).2
    rw [decide_eq_true k2, if_pos (show boI true ≠ 0 by decide), h11, chk_pos ((ib_nI (by omega)).mpr (by omega)), ix_nI (by omega), m8 k2, if_neg (fun z => by have := (nI_ltI (by omega) (by omega)).mp z; omega), if_pos ((nI_leI (by omega) (by omega)).mpr (by omega)), b_goes h, bnd1_some, if_pos k2]
  · rw [decide_eq_false k2, if_neg (show ¬ boI false ≠ 0 by decide), f1, bnd1_some, if_neg k2]
theorem b_number {u : Nat → Nat} {e n0 g l P fl pd : Nat} {σ0 τ0 σ τ : Wd} (h : Bs u e n0 g l P fl pd σ0 τ0 σ τ) : ∃ r, M_X6_number σ = some r ∧ (kTk u e P = 2 → r = nI (vTk u e P)) := by
  obtain ⟨_, _, _, r4, _⟩ := h.row
  have h64 := h.2.1.2.2.1
  have hP := h.1.2.1
  unfold M_X6_number
  rw [h64, chk_pos ((ib_nI (by omega)).mpr (by omega)), ix_nI (by omega)]
  exact ⟨_, rfl, fun z => lN32 (r4 z).1⟩
