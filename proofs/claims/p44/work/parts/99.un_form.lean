/-! the class reads a form without a fault -/
def elV (x : Fw) : Int32 := if fwE x = 0 then -1 else nI (fwE x - 1)
section FM
variable {u : Nat → Nat} {e n g P nc f : Nat} {ks : List (Nat × Nat)} {σ0 : Wd}
/-- what stands behind the sign of the first half -/
theorem FmS.rest {x : Fw} {σ : Wd} {sg : Nat} {m : Nat} (hx : FwIn nc x) (hs : sg = 13 ∨ sg = 5) (h : FmS u e n g P ((sg, 0) :: (tmKx x.2.1 ++ ((25, 0) :: (1, 82 + fwT x) :: (tmKx x.2.2.1 ++ elK x ((4, 0) :: ks))))) nc m f σ0 σ) : ∃ P' σ', M_X3_tellForm_J97 σ (nI f) (nI (4 * f)) (nI (ck sg)) = some σ' ∧ PS u e n g P' ks σ' ∧ NM nc m σ' ∧ (∀ c j, (c = g ∧ (j = 0 ∨ j = 1 ∨ j = 3)) ∨ c = g + 1 ∨ (c = g + 4 ∧ j ≠ f) → gI σ' c j = gI σ0 c j) ∧ gI σ' g 4 = nI (f + 1) ∧ gI σ' (g + 4) f = elV x := by
  obtain ⟨n4, ht, _, hb, he⟩ := hx
  obtain ⟨b1, b2, b3⟩ := ht x.2.1 (Or.inr (Or.inl rfl))
  obtain ⟨c1, c2, c3⟩ := ht x.2.2.1 (Or.inr (Or.inr (Or.inl rfl)))
  obtain ⟨d1, d2, d3⟩ := ht x.2.2.2.1 (Or.inr (Or.inr (Or.inr rfl)))
  have hf4 := h.2.1.2.2.1
  have ci : ib (nI f) 6 := (ib_nI (by omega)).mpr (by omega)
  have a4 : ∀ k : Nat, nI (4 * f) + nI k = nI (4 * f + k) := fun k => nI_add _ _
  obtain ⟨e1, h1⟩ := h.tk (by omega)
  obtain ⟨s2, e2, h2, _⟩ := h1.expr (ts := tmKx x.2.1) (w := 4 * f + 1) (by decide) (xok_tm b1 b3) (by omega)
  obtain ⟨e3, h3⟩ := h2.tk (by decide)
  have e3 : M_X3_take s2 105 = _ := e3
  have hg := h3.1.hg
  have e4 := h3.cell hb
  have h4 := h3.wI (c := g + 3) (k := f) (v := nI (fwT x)) (by omega)
  obtain ⟨e5, h5⟩ := h4.tk (by decide)
  have e5 : M_X3_take (uI (tk1 s2 (P + 1 + (tmKx x.2.1).length)) (g + 3) f (nI (fwT x))) 2 = _ := e5
  -- the third part, with what may stand behind it
  have step : ∀ {k v : Nat} {ks' : List (Nat × Nat)}, ¬ (k = 8 ∨ k = 9 ∨ k = 10 ∨ k = 15) → elK x ((4, 0) :: ks) = (k, v) :: ks' → ∃ P' s6, FmS u e n g P' ((k, v) :: ks') nc m f σ0 (uI s6 (g + 4) f (-1)) ∧ M_X3_tellForm_J97 σ (nI f) (nI (4 * f)) (nI (ck sg)) = (if nI (ck k) ≠ (106 : Int32) then (M_X3_tellForm_J191 (uI s6 (g + 4) f (-1))) else (bnd1 (M_X3_take (uI s6 (g + 4) f (-1)) (106 : Int32)) fun s_163 => chk (famT (gR s_163 2 6)) (bnd2 (M_X3_cellHere s_163) fun r175 s_175 => chk (ib (nI f) 6) (lt (uI s_175 ((gR s_163 2 6) + 4) (ix (nI f)) r175) fun s_178 => bnd1 (M_X3_take s_178 (2 : Int32)) fun s_181 => bnd1 (M_X3_takeExpression s_181 (nI (4 * f) + (3 : Int32))) fun s_188 => M_X3_tellForm_J191 s_188)))) := fun {k v ks'} hk eK => by
    rw [eK] at h5
    obtain ⟨s6, e6, h6, _⟩ := h5.expr (ts := tmKx x.2.2.1) (w := 4 * f + 2) hk (xok_tm c1 c3) (by omega)
    have g6 := h6.1.hg
    have h7 := h6.wI (c := g + 4) (k := f) (v := -1) (by omega)
    obtain ⟨_, kd, _⟩ := h7.1.now
    refine ⟨_, s6, h7, ?_⟩
    unfold M_X3_tellForm_J97
    rw [e1, bnd1_some, show nI (4 * f) + (1 : Int32) = nI (4 * f + 1) from a4 1, e2, bnd1_some, e3, bnd1_some, hg.1, chk_pos hg.2.1, e4, bnd2_some, chk_pos ci, lt_eq, ix_nI (by omega), e5, bnd1_some, show nI (4 * f) + (2 : Int32) = nI (4 * f + 2) from a4 2, e6, bnd1_some, g6.1, chk_pos g6.2.1, chk_pos ci, lt_eq, kd, bnd1_some]
  by_cases z : fwE x = 0
  · have eK : elK x ((4, 0) :: ks) = (4, 0) :: ks := if_pos z
    obtain ⟨P', s6, h7, e7⟩ := step (by decide) eK
    obtain ⟨r1, r2, r3, r4, r5⟩ := h7.end4
    rw [e7, if_pos (show nI (ck 4) ≠ 106 by decide), r1]
    refine ⟨_, _, rfl, r2, r3, r4, gI_s, r5.trans ?_⟩
    unfold elV
    rw [if_pos z, gI_s]
  · have eK : elK x ((4, 0) :: ks) = (26, 0) :: (1, 82 + (fwE x - 1)) :: (tmKx x.2.2.2.1 ++ (4, 0) :: ks) := if_neg z
    obtain ⟨P', s6, h7, e7⟩ := step (by decide) eK
    obtain ⟨e8, h8⟩ := h7.tk (by decide)
    have e8 : M_X3_take (uI s6 (g + 4) f (-1)) 106 = _ := e8
    have g8 := h8.1.hg
    have e9 := h8.cell (k := fwE x - 1) (by omega)
    have h9 := h8.wI (c := g + 4) (k := f) (v := nI (fwE x - 1)) (by omega)
    obtain ⟨e10, h10⟩ := h9.tk (by decide)
    have e10 : M_X3_take (uI (tk1 (uI s6 (g + 4) f (-1)) P') (g + 4) f (nI (fwE x - 1))) 2 = _ := e10
    obtain ⟨s11, e11, h11, k11⟩ := h10.expr (ts := tmKx x.2.2.2.1) (w := 4 * f + 3) (by decide) (xok_tm d1 d3) (by omega)
    obtain ⟨r1, r2, r3, r4, r5⟩ := h11.end4
    rw [e7, if_neg (show ¬ nI (ck 26) ≠ 106 from fun z => z rfl), e8, bnd1_some, g8.1, chk_pos g8.2.1, e9, bnd2_some, chk_pos ci, lt_eq, ix_nI (by omega), e10, bnd1_some, show nI (4 * f) + (3 : Int32) = nI (4 * f + 3) from a4 3, e11, bnd1_some, r1]
    have hg19 := g8.2.1
    refine ⟨_, _, rfl, r2, r3, r4, gI_s, r5.trans ((k11.1 (g + 4) f (by omega)).trans ?_)⟩
    rw [tk_o (by omega), gI_s]
    unfold elV
    rw [if_neg z]
theorem PS.tellF {x : Fw} {σ : Wd} (hx : FwIn nc x) (hf : f < 4) (h : PS u e n g P (foK f x ks) σ) (hN : NM nc (nc + f) σ) (h4 : gI σ g 4 = nI f) : ∃ P' σ', M_X3_tellForm σ = some σ' ∧ PS u e n g P' ks σ' ∧ NM nc (nc + f + 1) σ' ∧ (∀ c j, (c = g ∧ (j = 0 ∨ j = 1 ∨ j = 3)) ∨ c = g + 1 ∨ (c = g + 4 ∧ j ≠ f) → gI σ' c j = gI σ c j) ∧ gI σ' g 4 = nI (f + 1) ∧ gI σ' (g + 4) f = elV x := by
  have hx' := hx
  obtain ⟨n4, ht, hs, hb, he⟩ := hx
  obtain ⟨a1, a2, a3⟩ := ht x.1 (Or.inl rfl)
  have hg := h.hg
  have ci : ib (nI f) 6 := (ib_nI (by omega)).mpr (by omega)
  have h : PS u e n g P ((23, 0) :: (1, 163 + f) :: (24, 0) :: (tmKx x.1 ++ ((sgk (fwS x), 0) :: (tmKx x.2.1 ++ ((25, 0) :: (1, 82 + fwT x) :: (tmKx x.2.2.1 ++ elK x ((4, 0) :: ks))))))) σ := h
  obtain ⟨e1, h1⟩ := h.tk (by decide)
  have e1 : M_X3_take σ 103 = _ := e1
  have nv : 163 + f = nvF nc (nc + f) := by unfold nvF; rw [if_neg (by omega), Nat.add_sub_cancel_left]
  have na : naF nc (nc + f) = -1 := by unfold naF; rw [if_neg (by omega)]
  have N1 : NM nc (nc + f) (tk1 σ P) := NM.wI hN (by omega)
  obtain ⟨e2, N2, h2⟩ := NM.kept N1 h1 nv (by omega)
  rw [na] at e2 N2 h2
  obtain ⟨σ2, hσ2⟩ : ∃ σ2, σ2 = kpW (tk1 σ P) (nc + f) (lN (cv 8 (163 + f))) (-1) := ⟨_, rfl⟩
  rw [← hσ2] at e2 N2 h2
  have o2 : ∀ c j, ¬ (c = 4 ∨ c = 2 ∨ c = 6) → gI σ2 c j = gI σ c j := fun c j z => by
    rw [hσ2]
    unfold kpW tk1
    rw [gI_uI, if_neg (by omega), gI_uI, if_neg (by omega), gI_uL, gI_uI, if_neg (by omega)]
  have F2 : FmS u e n g (P + 1) ((1, 163 + f) :: (24, 0) :: (tmKx x.1 ++ ((sgk (fwS x), 0) :: (tmKx x.2.1 ++ ((25, 0) :: (1, 82 + fwT x) :: (tmKx x.2.2.1 ++ elK x ((4, 0) :: ks))))))) nc (nc + f + 1) f σ σ2 := ⟨h2, ⟨N2, by omega, hf, h4⟩, fun c j hc => o2 c j (by omega)⟩
  obtain ⟨e3, F3⟩ := F2.tk (by decide)
  have e3 : M_X3_take σ2 2 = _ := e3
  obtain ⟨e4, F4⟩ := F3.tk (by decide)
  have e4 : M_X3_take (tk1 σ2 (P + 1)) 104 = _ := e4
  have sgb : sgk (fwS x) = 13 ∨ sgk (fwS x) = 5 := by rcases hs with z | z <;> rw [z] <;> decide
  obtain ⟨s5, e5, F5, _⟩ := F4.expr (ts := tmKx x.1) (w := 4 * f) (by omega) (xok_tm a1 a3) (by omega)
  have g5 := F5.1.hg
  obtain ⟨_, kd, _⟩ := F5.1.now
  have m4 : nI f * (4 : Int32) = nI (4 * f) := by rw [Int32.mul_comm]; exact pk_mul 4 f
  have st : M_X3_tellForm σ = if nI (ck (sgk (fwS x))) ≠ (60 : Int32) then (M_X3_tellForm_J76 s5 (nI f) (nI (4 * f)) 0 (nI f) (g + 2)) else (M_X3_tellForm_J76 s5 (nI f) (nI (4 * f)) 1 (nI f) (g + 2)) := by
    unfold M_X3_tellForm
    rw [hg.1, chk_pos hg.2.1, lt_eq, h4, if_pos (show nI f < 6 from (nI_ltI (b := 6) (by omega) (by omega)).mpr (by omega)), lt_eq, m4, e1, bnd1_some, e2, bnd1_some, e3, bnd1_some, e4, bnd1_some, e5, bnd1_some, g5.1, chk_pos g5.2.1, kd, bnd1_some]
  rcases sgb with z | z
  · rw [z] at st F5
    have F6 := F5.wI (c := g + 2) (k := f) (v := 1) (by omega)
    obtain ⟨P', σ', r1, r⟩ := F6.rest hx' (Or.inl rfl)
    refine ⟨P', σ', ?_, r⟩
    rw [st, if_neg (show ¬ nI (ck 13) ≠ 60 from fun z => z rfl)]
    unfold M_X3_tellForm_J76
    have g6 := F6.1.hg
    rw [chk_pos ci, lt_eq, ix_nI (by omega), show vp_nar .boolean (1 : Int32) = 1 from rfl, g6.1, chk_pos g6.2.1, chk_pos ci, gI_s, if_neg n10]
    exact r1
  · rw [z] at st F5
    have F6 := F5.wI (c := g + 2) (k := f) (v := 0) (by omega)
    obtain ⟨P', σ', r1, r⟩ := F6.rest hx' (Or.inr rfl)
    refine ⟨P', σ', ?_, r⟩
    rw [st, if_pos (show nI (ck 5) ≠ 60 by decide)]
    unfold M_X3_tellForm_J76
    have g6 := F6.1.hg
    rw [chk_pos ci, lt_eq, ix_nI (by omega), show vp_nar .boolean (0 : Int32) = 0 from rfl, g6.1, chk_pos g6.2.1, chk_pos ci, gI_s, if_pos rfl]
    exact r1
end FM
