/-! the class reads a sentence without a fault -/
theorem NM.wI {nc m c k : Nat} {v : Int32} {σ : Wd} (h : NM nc m σ) (hc : ¬ (c = 4 ∨ c = 2 ∧ k = 3)) : NM nc m (uI σ c k v) := h.keep (by rw [gI_uI, if_neg (by omega)]) (fun _ => rfl) (fun i => by rw [gI_uI, if_neg (by omega)])
section SN
variable {u : Nat → Nat} {e n g P : Nat} {ks : List (Nat × Nat)} {σ : Wd}
/-- the worlds behind a token that is passed -/
def tk1 (σ : Wd) (P : Nat) : Wd := uI σ 6 4 (nI (P + 1))
theorem tk_o {P c j : Nat} (h : ¬ (c = 6 ∧ j = 4)) : gI (tk1 σ P) c j = gI σ c j := by unfold tk1; rw [gI_uI, if_neg h]
theorem PS.tk {k v : Nat} (h : PS u e n g P ((k, v) :: ks) σ) (hk : k ≠ 0) : M_X3_take σ (nI (ck k)) = some (tk1 σ P) ∧ PS u e n g (P + 1) ks (tk1 σ P) := h.take hk
/-- a number told -/
theorem PS.tellN {k v : Nat} (h : PS u e n g P ((k, 0) :: (2, v) :: (4, 0) :: ks) σ) (hk : (k = 20 ∧ 1 ≤ v ∧ v ≤ 5) ∨ (k = 21 ∧ v < 5) ∨ k = 27) : ∃ j, (k = 20 → j = 0) ∧ (k = 21 → j = 1) ∧ (k = 27 → j = 2) ∧ M_X3_tellNumber σ (nI (ck k)) = some (uI (tk1 (tk1 (tk1 σ P) (P + 1)) (P + 2)) g j (nI v)) ∧ PS u e n g (P + 3) ks (uI (tk1 (tk1 (tk1 σ P) (P + 1)) (P + 2)) g j (nI v)) := by
  obtain ⟨e1, h1⟩ := h.tk (by omega)
  obtain ⟨_, _, st, _, _, nu, _⟩ := h1.now
  have nu := nu rfl
  obtain ⟨e2, h2⟩ := h1.tk (by decide)
  obtain ⟨e3, h3⟩ := h2.tk (by decide)
  have e2 : M_X3_take (tk1 σ P) 3 = _ := e2
  have e3 : M_X3_take (tk1 (tk1 σ P) (P + 1)) 59 = _ := e3
  have hg := h3.hg
  have j24 : ∀ v1, v1 = nI (ck k) → M_X3_tellNumber_J24 σ v1 = if v1 ≠ (100 : Int32) then (if v1 ≠ (101 : Int32) then (some (uI (tk1 (tk1 (tk1 σ P) (P + 1)) (P + 2)) g 2 (nI v))) else (if nI v < (5 : Int32) then (some (uI (tk1 (tk1 (tk1 σ P) (P + 1)) (P + 2)) g 1 (nI v))) else (bnd1 (M_X3_failLater (uI (tk1 (tk1 (tk1 σ P) (P + 1)) (P + 2)) g 1 (nI v)) (5 : Int32) (nI (sq u e (P + 1)))) fun s_111 => some s_111))) else (if nI v < (1 : Int32) then (M_X3_tellNumber_J80 (uI (tk1 (tk1 (tk1 σ P) (P + 1)) (P + 2)) g 0 (nI v)) (nI (sq u e (P + 1)))) else (if nI v ≤ (5 : Int32) then (some (uI (tk1 (tk1 (tk1 σ P) (P + 1)) (P + 2)) g 0 (nI v))) else (M_X3_tellNumber_J80 (uI (tk1 (tk1 (tk1 σ P) (P + 1)) (P + 2)) g 0 (nI v)) (nI (sq u e (P + 1)))))) := fun v1 hv1 => by
    subst hv1
    unfold M_X3_tellNumber_J24
    rw [e1, bnd1_some, st, bnd1_some, nu, bnd1_some, e2, bnd1_some, e3, bnd1_some, hg.1]
    unfold chk
    simp only [lt_eq, if_pos hg.2.1]
  unfold M_X3_tellNumber
  rcases hk with ⟨rfl, v1, v2⟩ | ⟨rfl, v1⟩ | rfl
  · refine ⟨0, fun _ => rfl, fun z => by omega, fun z => by omega, ?_, h3.wI (by omega)⟩
    rw [if_pos (show nI (ck 20) = 100 from rfl), j24 _ rfl, if_neg (show ¬ nI (ck 20) ≠ 100 from fun z => z rfl), if_neg (show ¬ nI v < 1 from fun z => by have := (nI_ltI (b := 1) (by omega) (by omega)).mp z; omega), if_pos (show nI v ≤ 5 from (nI_leI (b := 5) (by omega) (by omega)).mpr v2)]
  · refine ⟨1, fun z => by omega, fun _ => rfl, fun z => by omega, ?_, h3.wI (by omega)⟩
    rw [if_neg (show ¬ nI (ck 21) = 100 by decide), if_pos (show nI (ck 21) = 101 from rfl), j24 _ rfl, if_pos (show nI (ck 21) ≠ 100 by decide), if_neg (show ¬ nI (ck 21) ≠ 101 from fun z => z rfl), if_pos (show nI v < 5 from (nI_ltI (b := 5) (by omega) (by omega)).mpr v1)]
  · refine ⟨2, fun z => by omega, fun z => by omega, fun _ => rfl, ?_, h3.wI (by omega)⟩
    rw [if_neg (show ¬ nI (ck 27) = 100 by decide), if_neg (show ¬ nI (ck 27) = 101 by decide), if_pos (show nI (ck 27) = 107 from rfl), j24 _ rfl, if_pos (show nI (ck 27) ≠ 100 by decide), if_pos (show nI (ck 27) ≠ 101 by decide)]
/-- a cell told -/
theorem PS.tellC {nc i v : Nat} (h : PS u e n g P ((22, 0) :: (1, 82 + i) :: (2, v) :: (4, 0) :: ks) σ) (hN : NM nc i σ) (hi : i < nc) (h3 : gI σ g 3 = nI i) : ∃ σ', M_X3_tellCell σ = some σ' ∧ PS u e n g (P + 4) ks σ' ∧ NM nc (i + 1) σ' ∧ gI σ' g 3 = nI (i + 1) ∧ gI σ' (g + 1) i = nI v ∧ ∀ c j, (c = g ∧ (j = 0 ∨ j = 1 ∨ j = 4)) ∨ (c = g + 1 ∧ j ≠ i) → gI σ' c j = gI σ c j := by
  have hg := h.hg
  have hn4 := hN.2.2.1
  obtain ⟨e1, h1⟩ := h.tk (by decide)
  have e1 : M_X3_take σ 102 = _ := e1
  have nv : 82 + i = nvF nc i := by unfold nvF; rw [if_pos hi]
  have na : naF nc i = nI i := by unfold naF; rw [if_pos hi]
  obtain ⟨e2, N2, h2⟩ := NM.kept (NM.wI (c := 6) (k := 4) (v := nI (P + 1)) hN (by omega)) h1 nv (by omega)
  rw [na] at e2 N2 h2
  have e2 : M_X3_keepName (tk1 σ P) (nI i) = some (kpW (tk1 σ P) i (lN (cv 8 (82 + i))) (nI i)) := e2
  obtain ⟨σ2, hσ2⟩ : ∃ σ2, σ2 = kpW (tk1 σ P) i (lN (cv 8 (82 + i))) (nI i) := ⟨_, rfl⟩
  have o2 : ∀ c j, ¬ (c = 4 ∨ c = 2 ∨ c = 6) → gI σ2 c j = gI σ c j := fun c j z => by
    rw [hσ2]
    unfold kpW tk1
    rw [gI_uI, if_neg (by omega), gI_uI, if_neg (by omega), gI_uL, gI_uI, if_neg (by omega)]
  have N2 : NM nc (i + 1) σ2 := by rw [hσ2]; exact N2
  have h2 : PS u e n g (P + 1) ((1, 82 + i) :: (2, v) :: (4, 0) :: ks) σ2 := by rw [hσ2]; exact h2
  rw [← hσ2] at e2
  obtain ⟨e3, h3'⟩ := h2.tk (by decide)
  have e3 : M_X3_take σ2 2 = _ := e3
  obtain ⟨_, _, _, _, _, nu, _⟩ := h3'.now
  have nu := nu rfl
  have h4 : PS u e n g (P + 1 + 1) ((2, v) :: (4, 0) :: ks) (uI (tk1 σ2 (P + 1)) (g + 1) i (nI v)) := h3'.wI (by omega)
  obtain ⟨e5, h5⟩ := h4.tk (by decide)
  have e5 : M_X3_take (uI (tk1 σ2 (P + 1)) (g + 1) i (nI v)) 3 = _ := e5
  obtain ⟨e6, h6⟩ := h5.tk (by decide)
  have e6 : M_X3_take (tk1 (uI (tk1 σ2 (P + 1)) (g + 1) i (nI v)) (P + 1 + 1)) 59 = _ := e6
  have g3 := h3'.hg
  have g6 := h6.hg
  have ci : ib (nI i) 6 := (ib_nI (by omega)).mpr (by omega)
  have r3 : gI (tk1 (tk1 (uI (tk1 σ2 (P + 1)) (g + 1) i (nI v)) (P + 1 + 1)) (P + 1 + 1 + 1)) g 3 = nI i := by
    rw [tk_o (by omega), tk_o (by omega), gI_uI, if_neg (by omega), tk_o (by omega), o2 g 3 (by omega)]
    exact h3
  refine ⟨uI (tk1 (tk1 (uI (tk1 σ2 (P + 1)) (g + 1) i (nI v)) (P + 1 + 1)) (P + 1 + 1 + 1)) g 3 (nI (i + 1)), ?_, h6.wI (by omega), ?_, gI_s, ?_, fun c j hc => ?_⟩
  · unfold M_X3_tellCell
    rw [hg.1, chk_pos hg.2.1, lt_eq, h3, if_pos (show nI i < 6 from (nI_ltI (b := 6) (by omega) (by omega)).mpr (by omega)), e1, bnd1_some, e2, bnd1_some, e3, bnd1_some, g3.1, chk_pos g3.2.1, nu, bnd1_some, chk_pos ci, lt_eq, ix_nI (by omega), e5, bnd1_some, e6, bnd1_some, g6.1, chk_pos g6.2.1, lt_eq, r3, nI_1]
  · exact (((((N2.wI (by omega)).wI (by omega)).wI (by omega)).wI (by omega)).wI (by omega))
  · rw [gI_uI, if_neg (by omega), tk_o (by omega), tk_o (by omega), gI_s]
  · rw [gI_uI, if_neg (by omega), tk_o (by omega), tk_o (by omega), gI_uI, if_neg (by omega), tk_o (by omega), o2 c j (by omega)]
/-- a form's end -/
theorem PS.formE {f : Nat} (h : PS u e n g P ((4, 0) :: ks) σ) (hf : f < 6) (h4 : gI σ g 4 = nI f) : M_X3_tellForm_J191 σ = some (uI (tk1 σ P) g 4 (nI (f + 1))) ∧ PS u e n g (P + 1) ks (uI (tk1 σ P) g 4 (nI (f + 1))) := by
  have hg := h.hg
  obtain ⟨e1, h1⟩ := h.tk (by decide)
  have e1 : M_X3_take σ 59 = _ := e1
  have g1 := h1.hg
  refine ⟨?_, h1.wI (by omega)⟩
  unfold M_X3_tellForm_J191
  rw [e1, bnd1_some, g1.1, chk_pos g1.2.1, lt_eq, tk_o (by omega), h4, nI_1]
/-- what a form keeps -/
def KF (g f : Nat) (σ0 σ : Wd) : Prop := ∀ c j, (c = g ∧ (j = 0 ∨ j = 1 ∨ j = 3 ∨ j = 4)) ∨ c = g + 1 ∨ (c = g + 4 ∧ j ≠ f) → gI σ c j = gI σ0 c j
theorem KF.wI {f c k : Nat} {v : Int32} {σ0 : Wd} (h : KF g f σ0 σ) (hc : ¬ ((c = g ∧ (k = 0 ∨ k = 1 ∨ k = 3 ∨ k = 4)) ∨ c = g + 1 ∨ (c = g + 4 ∧ k ≠ f))) : KF g f σ0 (uI σ c k v) := fun d j hd => by
  rw [gI_uI, if_neg (fun z => hc (by rw [← z.1, ← z.2]; exact hd))]
  exact h d j hd
theorem KF.ke {f : Nat} {σ0 σ' : Wd} (h : KF g f σ0 σ) (hk : KE g σ σ') (hg : g = 10 ∨ g = 19) : KF g f σ0 σ' := fun d j hd => (hk.1 d j (by omega)).trans (h d j hd)
end SN
/-- in the midst of a form -/
def FmS (u : Nat → Nat) (e n g P : Nat) (ts : List (Nat × Nat)) (nc m f : Nat) (σ0 σ : Wd) : Prop := PS u e n g P ts σ ∧ (NM nc m σ ∧ nc ≤ m ∧ f < 4 ∧ gI σ0 g 4 = nI f) ∧ KF g f σ0 σ
section FSs
variable {u : Nat → Nat} {e n g P nc m f : Nat} {ts ks : List (Nat × Nat)} {σ0 σ : Wd}
theorem FmS.tk {k v : Nat} (h : FmS u e n g P ((k, v) :: ks) nc m f σ0 σ) (hk : k ≠ 0) : M_X3_take σ (nI (ck k)) = some (tk1 σ P) ∧ FmS u e n g (P + 1) ks nc m f σ0 (tk1 σ P) := by
  obtain ⟨a, ⟨b1, b2⟩, c⟩ := h
  obtain ⟨e1, h1⟩ := a.tk hk
  have hg := a.hg.2.1
  exact ⟨e1, h1, ⟨b1.wI (by omega), b2⟩, c.wI (by omega)⟩
theorem FmS.wI {c k : Nat} {v : Int32} (h : FmS u e n g P ts nc m f σ0 σ) (hc : c = g + 2 ∨ c = g + 3 ∨ (c = g + 4 ∧ k = f)) : FmS u e n g P ts nc m f σ0 (uI σ c k v) := by
  obtain ⟨a, ⟨b1, b2⟩, c'⟩ := h
  have hg := a.hg.2.1
  exact ⟨a.wI (by omega), ⟨b1.wI (by omega), b2⟩, c'.wI (by omega)⟩
theorem FmS.expr {k v w : Nat} (h : FmS u e n g P (ts ++ (k, v) :: ks) nc m f σ0 σ) (hk : ¬ (k = 8 ∨ k = 9 ∨ k = 10 ∨ k = 15)) (hx : xok nc ts 0 1) (hw : w < 24) : ∃ σ', M_X3_takeExpression σ (nI w) = some σ' ∧ FmS u e n g (P + ts.length) ((k, v) :: ks) nc m f σ0 σ' ∧ KE g σ σ' := by
  obtain ⟨a, ⟨b1, b2, b3⟩, c⟩ := h
  have hg := a.hg.2.1
  obtain ⟨σ', e1, h1, k1⟩ := a.expr b1 b2 hk hx hw
  exact ⟨σ', e1, ⟨h1, ⟨b1.ke k1 hg, b2, b3⟩, c.ke k1 hg⟩, k1⟩
theorem FmS.cell {k : Nat} (h : FmS u e n g P ((1, 82 + k) :: ks) nc m f σ0 σ) (hk : k < nc) : M_X3_cellHere σ = some (nI k, σ) := NM.cell h.2.1.1 h.1 hk h.2.1.2.1
theorem FmS.end4 (h : FmS u e n g P ((4, 0) :: ks) nc m f σ0 σ) : M_X3_tellForm_J191 σ = some (uI (tk1 σ P) g 4 (nI (f + 1))) ∧ PS u e n g (P + 1) ks (uI (tk1 σ P) g 4 (nI (f + 1))) ∧ NM nc m (uI (tk1 σ P) g 4 (nI (f + 1))) ∧ (∀ c j, (c = g ∧ (j = 0 ∨ j = 1 ∨ j = 3)) ∨ c = g + 1 ∨ (c = g + 4 ∧ j ≠ f) → gI (uI (tk1 σ P) g 4 (nI (f + 1))) c j = gI σ0 c j) ∧ gI (uI (tk1 σ P) g 4 (nI (f + 1))) (g + 4) f = gI σ (g + 4) f := by
  obtain ⟨a, ⟨b1, b2, b3, b4⟩, c⟩ := h
  have hg := a.hg.2.1
  have h4 : gI σ g 4 = nI f := (c g 4 (by omega)).trans b4
  obtain ⟨e1, h1⟩ := a.formE (by omega) h4
  refine ⟨e1, h1, (b1.wI (by omega)).wI (by omega), fun c' j hc => ?_, ?_⟩
  · rw [gI_uI, if_neg (by omega), tk_o (by omega)]
    exact c c' j (by omega)
  · rw [gI_uI, if_neg (by omega), tk_o (by omega)]
end FSs
