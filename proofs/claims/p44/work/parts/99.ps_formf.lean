/-! a form told: what is left of it, behind each step; after a fault -/
def fcY3 (s_178 : Wd) (v2 : Int32) : Option Wd := bnd1 (M_X3_take s_178 (2 : Int32)) fun s_181 => bnd1 (M_X3_takeExpression s_181 (v2 + (3 : Int32))) fun s_188 => M_X3_tellForm_J191 s_188
def fcY2 (s_163 : Wd) (v1 v2 : Int32) : Option Wd := chk (famT (gR s_163 2 6)) (bnd2 (M_X3_cellHere s_163) fun r175 s_175 => chk (ib v1 6) (lt (uI s_175 ((gR s_163 2 6) + 4) (ix v1) r175) fun s_178 => fcY3 s_178 v2))
def fcY (s_135 : Wd) (v1 v2 : Int32) : Option Wd := chk (famT (gR s_135 2 6)) (chk (ib v1 6) (lt (uI s_135 ((gR s_135 2 6) + 4) (ix v1) (-1 : Int32)) fun s_147 => bnd1 (M_X6_kind s_147) fun r152 => if r152 ≠ (106 : Int32) then (M_X3_tellForm_J191 s_147) else (bnd1 (M_X3_take s_147 (106 : Int32)) fun s_163 => fcY2 s_163 v1 v2)))
def fcX3 (s_125 : Wd) (v1 v2 : Int32) : Option Wd := bnd1 (M_X3_take s_125 (2 : Int32)) fun s_128 => bnd1 (M_X3_takeExpression s_128 (v2 + (2 : Int32))) fun s_135 => fcY s_135 v1 v2
def fcX2 (s_110 : Wd) (v1 v2 : Int32) : Option Wd := chk (famT (gR s_110 2 6)) (bnd2 (M_X3_cellHere s_110) fun r122 s_122 => chk (ib v1 6) (lt (uI s_122 ((gR s_110 2 6) + 3) (ix v1) r122) fun s_125 => fcX3 s_125 v1 v2))
def fcX (s_104 : Wd) (v1 v2 : Int32) : Option Wd := bnd1 (M_X3_take s_104 (105 : Int32)) fun s_110 => fcX2 s_110 v1 v2
theorem fc_J97 {σ : Wd} {v1 v2 t0 : Int32} : M_X3_tellForm_J97 σ v1 v2 t0 = bnd1 (M_X3_take σ t0) fun s_97 => bnd1 (M_X3_takeExpression s_97 (v2 + (1 : Int32))) fun s_104 => fcX s_104 v1 v2 := rfl
def fcW (s_48 : Wd) (v1_7 v2_23 : Int32) : Option Wd := chk (famT (gR s_48 2 6)) (bnd1 (M_X6_kind s_48) fun r63 => if r63 ≠ (60 : Int32) then (M_X3_tellForm_J76 s_48 v1_7 v2_23 (0 : Int32) v1_7 ((gR s_48 2 6) + 2)) else (M_X3_tellForm_J76 s_48 v1_7 v2_23 (1 : Int32) v1_7 ((gR s_48 2 6) + 2)))
def fcV4 (s_43 : Wd) (v1 v2 : Int32) : Option Wd := bnd1 (M_X3_takeExpression s_43 v2) fun s_48 => fcW s_48 v1 v2
def fcV3 (s_37 : Wd) (v1 v2 : Int32) : Option Wd := bnd1 (M_X3_take s_37 (104 : Int32)) fun s_43 => fcV4 s_43 v1 v2
def fcV2 (s_32 : Wd) (v1 v2 : Int32) : Option Wd := bnd1 (M_X3_take s_32 (2 : Int32)) fun s_37 => fcV3 s_37 v1 v2
def fcV (s_27 : Wd) (v1 v2 : Int32) : Option Wd := bnd1 (M_X3_keepName s_27 (-1 : Int32)) fun s_32 => fcV2 s_32 v1 v2
theorem fc_form {σ : Wd} : M_X3_tellForm σ = chk (famT (gR σ 2 6)) (lt (gI σ (gR σ 2 6) 4) fun v1_7 => if v1_7 < (6 : Int32) then (lt (v1_7 * (4 : Int32)) fun v2_23 => bnd1 (M_X3_take σ (103 : Int32)) fun s_27 => fcV s_27 v1_7 v2_23) else (bnd1 (M_X3_fail σ (2 : Int32)) fun s_16 => some s_16)) := rfl
def fmY2 (s_166 : Wd) (v1 v2 : Int32) : Option Wd := if (gI s_166 0 13) ≤ 0 then (bnd2 (M_X9_known s_166) fun r186 s_186 => M_X9_tellForm_J189 s_186 v1 v2 r186 v1) else (M_X9_tellForm_J189 s_166 v1 v2 (0 : Int32) v1)
def fmY (s_132 : Wd) (v1 v2 : Int32) : Option Wd := chk (ib v1 12) (lt (uI s_132 17 (ix v1) (-1 : Int32)) fun s_141 => chk (ib (((5 : Int32) * v1) + (3 : Int32)) 60) (lt (uI s_141 18 (ix (((5 : Int32) * v1) + (3 : Int32))) (gI s_141 0 33)) fun s_155 => bnd1 (M_X9_is s_155 (26 : Int32)) fun r159 => if r159 = 0 then (M_X9_tellForm_J199 s_155 v1 v2) else (bnd1 (M_X9_goesOn s_155) fun s_166 => fmY2 s_166 v1 v2)))
theorem fm_J125 {σ : Wd} {v1 v2 t0 t1 : Int32} : M_X9_tellForm_J125 σ v1 v2 t0 t1 = chk (ib t1 12) (lt (uI σ 16 (ix t1) t0) fun s_125 => bnd1 (M_X9_termTold s_125 (((5 : Int32) * v1) + (2 : Int32))) fun s_132 => fmY s_132 v1 v2) := rfl
def fmX2 (s_102 : Wd) (v1 v2 : Int32) : Option Wd := if (gI s_102 0 13) ≤ 0 then (bnd2 (M_X9_known s_102) fun r122 s_122 => M_X9_tellForm_J125 s_122 v1 v2 r122 v1) else (M_X9_tellForm_J125 s_102 v1 v2 (0 : Int32) v1)
def fmX (s_96 : Wd) (v1 v2 : Int32) : Option Wd := bnd1 (M_X9_must s_96 (25 : Int32)) fun s_102 => fmX2 s_102 v1 v2
theorem fm_J90 {σ : Wd} {v1 v2 : Int32} : M_X9_tellForm_J90 σ v1 v2 = bnd1 (M_X9_termTold σ (((5 : Int32) * v1) + (1 : Int32))) fun s_96 => fmX s_96 v1 v2 := rfl
def fmW (s_33 : Wd) (v1_17 r19 : Int32) : Option Wd := bnd1 (M_X9_is s_33 (13 : Int32)) fun r44 => if r44 = 0 then (M_X9_tellForm_J56 s_33 v1_17 r19 (5 : Int32) v1_17) else (M_X9_tellForm_J56 s_33 v1_17 r19 (13 : Int32) v1_17)
def fmV2 (s_26 : Wd) (v1_17 r19 : Int32) : Option Wd := bnd1 (M_X9_termTold s_26 ((5 : Int32) * v1_17)) fun s_33 => fmW s_33 v1_17 r19
def fmV (s_19 : Wd) (v1_17 r19 : Int32) : Option Wd := bnd1 (M_X9_must s_19 (24 : Int32)) fun s_26 => fmV2 s_26 v1_17 r19
theorem fm_form {σ : Wd} : M_X9_tellForm σ = chk (ib (gI σ 0 19) 2) (lt (((6 : Int32) * (gI σ 0 19)) + (gI σ 14 (ix (gI σ 0 19)))) fun v1_17 => bnd2 (M_X9_named σ) fun r19 s_19 => fmV s_19 v1_17 r19) := rfl
section FCF
variable {g : Nat} {σ0 σ : Wd}
theorem F_Y3 (h : CFT g σ0 σ) {f : Nat} (hf : f < 6) : ∃ σ', fcY3 σ (nI (4 * f)) = some σ' ∧ CFT g σ0 σ' := by
  obtain ⟨σ1, t1, t2⟩ := F_expr h (v := 4 * f + 3) (by omega)
  unfold fcY3
  rw [F_take h, bnd1_some, show (3 : Int32) = nI 3 from rfl, nI_add, t1, bnd1_some]
  exact F_J191 t2
theorem F_Y2 (h : CFT g σ0 σ) {f : Nat} (hf : f < 6) : ∃ σ', fcY2 σ (nI f) (nI (4 * f)) = some σ' ∧ CFT g σ0 σ' := by
  have hg := h.2.2.2.2.2.1
  unfold fcY2
  simp only [lt_eq]
  rw [h.2.2.2.2.1, chk_pos hg, F_cell h, bnd2_some, chk_pos ((ib_nI (by omega)).mpr hf), ix_nI (by omega)]
  exact F_Y3 (h.wI (by omega) (fun z => by omega) (fun z => by omega) (fun _ => by omega)) hf
theorem F_Y (h : CFT g σ0 σ) {f : Nat} (hf : f < 6) : ∃ σ', fcY σ (nI f) (nI (4 * f)) = some σ' ∧ CFT g σ0 σ' := by
  have hg := h.2.2.2.2.2.1
  unfold fcY
  simp only [lt_eq]
  rw [h.2.2.2.2.1, chk_pos hg, chk_pos ((ib_nI (by omega)).mpr hf), ix_nI (by omega)]
  have h1 : CFT g σ0 (uI σ (g + 4) f (-1)) := h.wI (by omega) (fun z => by omega) (fun z => by omega) (fun _ => by omega)
  obtain ⟨r, k1⟩ := F_kind h1
  rw [k1, bnd1_some]
  by_cases q : r ≠ 106
  · rw [if_pos q]; exact F_J191 h1
  · rw [if_neg q, F_take h1, bnd1_some]
    exact F_Y2 h1 hf
theorem F_X3 (h : CFT g σ0 σ) {f : Nat} (hf : f < 6) : ∃ σ', fcX3 σ (nI f) (nI (4 * f)) = some σ' ∧ CFT g σ0 σ' := by
  obtain ⟨σ1, t1, t2⟩ := F_expr h (v := 4 * f + 2) (by omega)
  unfold fcX3
  rw [F_take h, bnd1_some, show (2 : Int32) = nI 2 from rfl, nI_add, t1, bnd1_some]
  exact F_Y t2 hf
theorem F_X2 (h : CFT g σ0 σ) {f : Nat} (hf : f < 6) : ∃ σ', fcX2 σ (nI f) (nI (4 * f)) = some σ' ∧ CFT g σ0 σ' := by
  have hg := h.2.2.2.2.2.1
  unfold fcX2
  simp only [lt_eq]
  rw [h.2.2.2.2.1, chk_pos hg, F_cell h, bnd2_some, chk_pos ((ib_nI (by omega)).mpr hf), ix_nI (by omega)]
  exact F_X3 (h.wI (by omega) (fun z => by omega) (fun z => by omega) (fun _ => by omega)) hf
theorem F_X (h : CFT g σ0 σ) {f : Nat} (hf : f < 6) : ∃ σ', fcX σ (nI f) (nI (4 * f)) = some σ' ∧ CFT g σ0 σ' := by
  unfold fcX
  rw [F_take h, bnd1_some]
  exact F_X2 h hf
theorem F_J97 (h : CFT g σ0 σ) {f : Nat} (hf : f < 6) (t : Int32) : ∃ σ', M_X3_tellForm_J97 σ (nI f) (nI (4 * f)) t = some σ' ∧ CFT g σ0 σ' := by
  obtain ⟨σ1, t1, t2⟩ := F_expr h (v := 4 * f + 1) (by omega)
  rw [fc_J97, F_take h, bnd1_some, nI_1, t1, bnd1_some]
  exact F_X t2 hf
theorem F_J76 (h : CFT g σ0 σ) {f : Nat} (hf : f < 6) (t : Int32) : ∃ σ', M_X3_tellForm_J76 σ (nI f) (nI (4 * f)) t (nI f) (g + 2) = some σ' ∧ CFT g σ0 σ' := by
  have hg := h.2.2.2.2.2.1
  unfold M_X3_tellForm_J76
  simp only [lt_eq]
  rw [chk_pos ((ib_nI (by omega)).mpr hf), ix_nI (by omega)]
  have h1 : CFT g σ0 (uI σ (g + 2) f (vp_nar .boolean t)) := h.wI (by omega) (fun z => by omega) (fun z => by omega) (fun _ => by omega)
  rw [h1.2.2.2.2.1, chk_pos hg, chk_pos ((ib_nI (by omega)).mpr hf)]
  by_cases q : gI (uI σ (g + 2) f (vp_nar .boolean t)) (g + 2) f = 0
  · rw [if_pos q]; exact F_J97 h1 hf _
  · rw [if_neg q]; exact F_J97 h1 hf _
theorem F_W (h : CFT g σ0 σ) {f : Nat} (hf : f < 6) : ∃ σ', fcW σ (nI f) (nI (4 * f)) = some σ' ∧ CFT g σ0 σ' := by
  have hg := h.2.2.2.2.2.1
  obtain ⟨r, k1⟩ := F_kind h
  unfold fcW
  rw [h.2.2.2.2.1, chk_pos hg, k1, bnd1_some]
  by_cases q : r ≠ 60
  · rw [if_pos q]; exact F_J76 h hf _
  · rw [if_neg q]; exact F_J76 h hf _
theorem F_V4 (h : CFT g σ0 σ) {f : Nat} (hf : f < 6) : ∃ σ', fcV4 σ (nI f) (nI (4 * f)) = some σ' ∧ CFT g σ0 σ' := by
  obtain ⟨σ1, t1, t2⟩ := F_expr h (v := 4 * f) (by omega)
  unfold fcV4
  rw [t1, bnd1_some]
  exact F_W t2 hf
theorem F_V3 (h : CFT g σ0 σ) {f : Nat} (hf : f < 6) : ∃ σ', fcV3 σ (nI f) (nI (4 * f)) = some σ' ∧ CFT g σ0 σ' := by
  unfold fcV3
  rw [F_take h, bnd1_some]
  exact F_V4 h hf
theorem F_V2 (h : CFT g σ0 σ) {f : Nat} (hf : f < 6) : ∃ σ', fcV2 σ (nI f) (nI (4 * f)) = some σ' ∧ CFT g σ0 σ' := by
  unfold fcV2
  rw [F_take h, bnd1_some]
  exact F_V3 h hf
theorem F_V (h : CFT g σ0 σ) {f : Nat} (hf : f < 6) : ∃ σ', fcV σ (nI f) (nI (4 * f)) = some σ' ∧ CFT g σ0 σ' := by
  unfold fcV
  rw [F_keep h, bnd1_some]
  exact F_V2 h hf
end FCF
section FMG
variable {l : Nat} {τ0 τ : Wd}
theorem x5 {v : Nat} (hv : v < 12) : (5 : Int32) * nI v = nI (5 * v) := by
  rw [show (5 : Int32) = nI 5 from rfl, pk_mul]
theorem G_J199 (h : MFT l τ0 τ) {v : Nat} (hv : 6 * l ≤ v ∧ v < 6 * l + 6) (r : Int32) : ∃ τ', M_X9_tellForm_J199 τ (nI v) r = some τ' ∧ MFT l τ0 τ' := by
  have hl := h.2.2.2.2.2.1
  unfold M_X9_tellForm_J199
  simp only [lt_eq]
  rw [x5 (by omega), show (4 : Int32) = nI 4 from rfl, nI_add, chk_pos ((ib_nI (by omega)).mpr (by omega)), ix_nI (by omega)]
  have h1 : MFT l τ0 (uI τ 18 (5 * v + 4) (gI τ 0 33)) := h.wI (by unfold okm; omega) (fun z => by omega)
  rw [G_must h1, bnd1_some, if_neg (pos_ne h1.2.1).2]
  exact ⟨_, rfl, h1⟩
theorem G_J189 (h : MFT l τ0 τ) {v : Nat} (hv : 6 * l ≤ v ∧ v < 6 * l + 6) (r t : Int32) : ∃ τ', M_X9_tellForm_J189 τ (nI v) r t (nI v) = some τ' ∧ MFT l τ0 τ' := by
  have hl := h.2.2.2.2.2.1
  unfold M_X9_tellForm_J189
  simp only [lt_eq]
  rw [chk_pos ((ib_nI (by omega)).mpr (by omega)), ix_nI (by omega), x5 (by omega), show (3 : Int32) = nI 3 from rfl, nI_add]
  have h1 : MFT l τ0 (uI τ 17 v t) := h.wI (by unfold okm; omega) (fun z => by omega)
  obtain ⟨τ1, t1, t2⟩ := G_term h1 (v := 5 * v + 3) (by omega)
  rw [t1, bnd1_some]
  exact G_J199 t2 hv _
theorem G_Y2 (h : MFT l τ0 τ) {v : Nat} (hv : 6 * l ≤ v ∧ v < 6 * l + 6) (r : Int32) : ∃ τ', fmY2 τ (nI v) r = some τ' ∧ MFT l τ0 τ' := by
  unfold fmY2
  rw [if_neg (pos_ne h.2.1).2]
  exact G_J189 h hv _ _
theorem G_Y (h : MFT l τ0 τ) {v : Nat} (hv : 6 * l ≤ v ∧ v < 6 * l + 6) (r : Int32) : ∃ τ', fmY τ (nI v) r = some τ' ∧ MFT l τ0 τ' := by
  have hl := h.2.2.2.2.2.1
  unfold fmY
  simp only [lt_eq]
  rw [chk_pos ((ib_nI (by omega)).mpr (by omega)), ix_nI (show v < 2 ^ 31 by omega), x5 (by omega), show (3 : Int32) = nI 3 from rfl, nI_add, chk_pos ((ib_nI (by omega)).mpr (by omega)), ix_nI (by omega)]
  have h1 : MFT l τ0 (uI τ 17 v (-1)) := h.wI (by unfold okm; omega) (fun z => by omega)
  have h2 : MFT l τ0 (uI (uI τ 17 v (-1)) 18 (5 * v + 3) (gI (uI τ 17 v (-1)) 0 33)) := h1.wI (by unfold okm; omega) (fun z => by omega)
  rw [G_is h2, bnd1_some, if_pos rfl]
  exact G_J199 h2 hv _
theorem G_J125 (h : MFT l τ0 τ) {v : Nat} (hv : 6 * l ≤ v ∧ v < 6 * l + 6) (r t : Int32) : ∃ τ', M_X9_tellForm_J125 τ (nI v) r t (nI v) = some τ' ∧ MFT l τ0 τ' := by
  have hl := h.2.2.2.2.2.1
  rw [fm_J125]
  simp only [lt_eq]
  rw [chk_pos ((ib_nI (by omega)).mpr (by omega)), ix_nI (by omega), x5 (by omega), show (2 : Int32) = nI 2 from rfl, nI_add]
  have h1 : MFT l τ0 (uI τ 16 v t) := h.wI (by unfold okm; omega) (fun z => by omega)
  obtain ⟨τ1, t1, t2⟩ := G_term h1 (v := 5 * v + 2) (by omega)
  rw [t1, bnd1_some]
  exact G_Y t2 hv _
theorem G_X2 (h : MFT l τ0 τ) {v : Nat} (hv : 6 * l ≤ v ∧ v < 6 * l + 6) (r : Int32) : ∃ τ', fmX2 τ (nI v) r = some τ' ∧ MFT l τ0 τ' := by
  unfold fmX2
  rw [if_neg (pos_ne h.2.1).2]
  exact G_J125 h hv _ _
theorem G_X (h : MFT l τ0 τ) {v : Nat} (hv : 6 * l ≤ v ∧ v < 6 * l + 6) (r : Int32) : ∃ τ', fmX τ (nI v) r = some τ' ∧ MFT l τ0 τ' := by
  unfold fmX
  rw [G_must h, bnd1_some]
  exact G_X2 h hv _
theorem G_J90 (h : MFT l τ0 τ) {v : Nat} (hv : 6 * l ≤ v ∧ v < 6 * l + 6) (r : Int32) : ∃ τ', M_X9_tellForm_J90 τ (nI v) r = some τ' ∧ MFT l τ0 τ' := by
  have hl := h.2.2.2.2.2.1
  obtain ⟨τ1, t1, t2⟩ := G_term h (v := 5 * v + 1) (by omega)
  rw [fm_J90, x5 (by omega), nI_1, t1, bnd1_some]
  exact G_X t2 hv _
theorem G_J79 (h : MFT l τ0 τ) {v : Nat} (hv : 6 * l ≤ v ∧ v < 6 * l + 6) (r : Int32) : ∃ τ', M_X9_tellForm_J79 τ (nI v) r = some τ' ∧ MFT l τ0 τ' := by
  unfold M_X9_tellForm_J79
  rw [if_pos (pos_ne h.2.1).1]
  exact G_J90 h hv _
theorem G_J56 (h : MFT l τ0 τ) {v : Nat} (hv : 6 * l ≤ v ∧ v < 6 * l + 6) (r t : Int32) : ∃ τ', M_X9_tellForm_J56 τ (nI v) r t (nI v) = some τ' ∧ MFT l τ0 τ' := by
  have hl := h.2.2.2.2.2.1
  unfold M_X9_tellForm_J56
  simp only [lt_eq]
  rw [chk_pos ((ib_nI (by omega)).mpr (by omega)), ix_nI (by omega)]
  have h1 : MFT l τ0 (uI τ 15 v t) := h.wI (by unfold okm; omega) (fun z => by omega)
  rw [G_is h1, bnd1_some, if_neg (fun z => z rfl), G_is h1, bnd1_some, if_neg (fun z => z rfl), G_fail h1, bnd1_some]
  exact G_J79 h1 hv _
theorem G_W (h : MFT l τ0 τ) {v : Nat} (hv : 6 * l ≤ v ∧ v < 6 * l + 6) (r : Int32) : ∃ τ', fmW τ (nI v) r = some τ' ∧ MFT l τ0 τ' := by
  unfold fmW
  rw [G_is h, bnd1_some, if_pos rfl]
  exact G_J56 h hv _ _
theorem G_V2 (h : MFT l τ0 τ) {v : Nat} (hv : 6 * l ≤ v ∧ v < 6 * l + 6) (r : Int32) : ∃ τ', fmV2 τ (nI v) r = some τ' ∧ MFT l τ0 τ' := by
  have hl := h.2.2.2.2.2.1
  obtain ⟨τ1, t1, t2⟩ := G_term h (v := 5 * v) (by omega)
  unfold fmV2
  rw [x5 (by omega), t1, bnd1_some]
  exact G_W t2 hv _
theorem G_V (h : MFT l τ0 τ) {v : Nat} (hv : 6 * l ≤ v ∧ v < 6 * l + 6) (r : Int32) : ∃ τ', fmV τ (nI v) r = some τ' ∧ MFT l τ0 τ' := by
  unfold fmV
  rw [G_must h, bnd1_some]
  exact G_V2 h hv _
end FMG
