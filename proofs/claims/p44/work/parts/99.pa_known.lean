/-! later faults; a cell that is known -/
theorem uI_comm {σ : Wd} {c k c' k' : Nat} {v v' : Int32} (h : ¬ (c = c' ∧ k = k')) : uI (uI σ c k v) c' k' v' = uI (uI σ c' k' v') c k v := by
  refine Prod.ext ?_ rfl
  funext d j
  show gI (uI (uI σ c k v) c' k' v') d j = gI (uI (uI σ c' k' v') c k v) d j
  rw [gI_uI, gI_uI, gI_uI, gI_uI]
  by_cases h1 : d = c' ∧ j = k'
  · rw [if_pos h1, if_neg (fun z => h ⟨z.1.symm.trans h1.1, z.2.symm.trans h1.2⟩), if_pos h1]
  · rw [if_neg h1, if_neg h1]
def ltC (σ : Wd) (fl f p : Nat) : Wd := if fl = 0 then uI (uI σ 2 9 (nI f)) 2 10 (nI p) else σ
def ltM (τ : Wd) (fl f p : Nat) : Wd := if fl = 0 then uI (uI τ 0 15 (nI f)) 0 16 (nI p) else τ
def LtC (σ σ1 : Wd) : Prop := (∀ c j, ¬ (c = 2 ∧ (j = 9 ∨ j = 10)) → gI σ1 c j = gI σ c j) ∧ σ1.2 = σ.2
def LtM (τ τ1 : Wd) : Prop := (∀ c j, ¬ (c = 0 ∧ (j = 15 ∨ j = 16)) → gI τ1 c j = gI τ c j) ∧ τ1.2 = τ.2
theorem LtC_mk {σ : Wd} {fl f p : Nat} : LtC σ (ltC σ fl f p) := by
  unfold ltC
  by_cases h : fl = 0
  · rw [if_pos h]
    exact ⟨fun c j z => by rw [gI_uI, if_neg (by omega), gI_uI, if_neg (by omega)], rfl⟩
  · rw [if_neg h]; exact ⟨fun _ _ _ => rfl, rfl⟩
theorem LtM_mk {τ : Wd} {fl f p : Nat} : LtM τ (ltM τ fl f p) := by
  unfold ltM
  by_cases h : fl = 0
  · rw [if_pos h]
    exact ⟨fun c j z => by rw [gI_uI, if_neg (by omega), gI_uI, if_neg (by omega)], rfl⟩
  · rw [if_neg h]; exact ⟨fun _ _ _ => rfl, rfl⟩
section LT
variable {u : Nat → Nat} {e n0 g l P fl pd : Nat} {σ0 τ0 σ τ : Wd}
theorem Bs.late (h : Bs u e n0 g l P fl pd σ0 τ0 σ τ) {f j pd' : Nat} (hf : 1 ≤ f ∧ f ≤ 6) (hj : j < P + pd') (hp : pd ≤ pd') (hp' : pd' ≤ 1) : Bs u e n0 g l P (if fl = 0 then f else fl) pd' σ0 τ0 (ltC σ fl f (sq u e j)) (ltM τ fl f (sq u e j)) := by
  obtain ⟨⟨a1, a2, a3, a4, a5, a6⟩, ⟨b1, b2, b3, b4, b5, bg, bf⟩, ⟨c1, c2, c3, c4, cl, cf⟩, ⟨f1, f2, f3, f4⟩, ⟨s, s1, s2, s3⟩⟩ := h
  unfold ltC ltM
  by_cases h0 : fl = 0
  · rw [if_pos h0, if_pos h0, if_pos h0]
    have o : ∀ c k, ¬ (c = 2 ∧ (k = 9 ∨ k = 10)) → gI (uI (uI σ 2 9 (nI f)) 2 10 (nI (sq u e j))) c k = gI σ c k := fun c k z => by rw [gI_uI, if_neg (by omega), gI_uI, if_neg (by omega)]
    have m : ∀ c k, ¬ (c = 0 ∧ (k = 15 ∨ k = 16)) → gI (uI (uI τ 0 15 (nI f)) 0 16 (nI (sq u e j))) c k = gI τ c k := fun c k z => by rw [gI_uI, if_neg (by omega), gI_uI, if_neg (by omega)]
    have hg2 : ¬ g = 2 := by rcases bg with z | z <;> rw [z] <;> decide
    refine ⟨⟨a1, a2, a3, a4, a5, hp'⟩, ⟨b1, (o _ _ (by omega)).trans b2, (o _ _ (by omega)).trans b3, (o _ _ (by omega)).trans b4, b5, bg, (bf.wI (Or.inl rfl)).wI (Or.inl rfl)⟩, ⟨c1, (m _ _ (by omega)).trans c2, (m _ _ (by omega)).trans c3, (m _ _ (by omega)).trans c4, cl, FRm.wI (by unfold okm; omega) (FRm.wI (by unfold okm; omega) cf)⟩, ⟨?_, ?_, hf.2, fun _ => ⟨j, hj, gI_s, gI_s⟩⟩, ⟨s, s1, (o _ _ (fun z => hg2 z.1)).trans s2, fun z => absurd z (by omega)⟩⟩
    · rw [gI_uI, if_neg (by omega), gI_s]
    · rw [gI_uI, if_neg (by omega), gI_s]
  · rw [if_neg h0, if_neg h0, if_neg h0]
    refine ⟨⟨a1, a2, a3, a4, a5, hp'⟩, ⟨b1, b2, b3, b4, b5, bg, bf⟩, ⟨c1, c2, c3, c4, cl, cf⟩, ⟨f1, f2, f3, fun z => ?_⟩, ⟨s, s1, s2, s3⟩⟩
    obtain ⟨j', j1, j2, j3⟩ := f4 z
    exact ⟨j', by omega, j2, j3⟩
theorem Bs.pend (h : Bs u e n0 g l P fl pd σ0 τ0 σ τ) : Bs u e n0 g l P fl 1 σ0 τ0 σ τ := by
  obtain ⟨⟨a1, a2, a3, a4, a5, a6⟩, b, c, ⟨f1, f2, f3, f4⟩, s⟩ := h
  refine ⟨⟨a1, a2, a3, a4, a5, Nat.le_refl _⟩, b, c, ⟨f1, f2, f3, fun z => ?_⟩, s⟩
  obtain ⟨j', j1, j2, j3⟩ := f4 z
  exact ⟨j', by omega, j2, j3⟩
theorem c_late {f : Nat} {p : Nat} (h : gI σ 2 9 = nI fl) (hf : fl ≤ 6) : M_X3_failLater σ (nI f) (nI p) = some (ltC σ fl f p) := by
  unfold M_X3_failLater ltC
  rw [h]
  by_cases h0 : fl = 0
  · subst h0
    rw [if_neg (show ¬ nI 0 ≠ 0 by decide), if_pos rfl]
    rfl
  · rw [if_pos (nI_ne0 (by omega) (by omega)), if_neg h0]
/-- a wrong place that is later than the ones before -/
theorem m_wrong {f w : Nat} (hw : w < 403) (h13 : gI τ 0 13 = 0) (h15 : gI τ 0 15 = nI fl) (hf : fl ≤ 6) (h4 : gI τ 4 w = nI (sq u e w)) (hRw : Rch u e w) (he : e ≤ 2000) (h16 : fl ≠ 0 → ∃ j, j < w ∧ gI τ 0 16 = nI (sq u e j)) : M_X9_wrong τ (nI f) (nI w) = some (ltM τ fl f (sq u e w)) := by
  unfold M_X9_wrong M_X9_wrong_J46 ltM
  rw [chk_pos ((ib_nI (by omega)).mpr hw), ix_nI (by omega), h4, h13, h15]
  simp only [lt_eq]
  rw [if_neg (show ¬ (0 : Int32) < 0 by decide)]
  by_cases h0 : fl = 0
  · subst h0
    rw [if_pos (show nI 0 = 0 from rfl), if_pos rfl]
  · obtain ⟨j, j1, j2⟩ := h16 h0
    have := sq_mono w j j1 hRw
    have := sq_le w hRw
    rw [if_neg (show ¬ nI fl = 0 from fun z => h0 ((nI_eq (b := 0) (by omega) (by omega)).mp z)), j2, if_pos ((nI_ltI (by omega) (by omega)).mpr (by omega)), if_neg h0]
theorem b_known {m mc nc : Nat} {NV NA : Nat → Nat} (h : Bs u e n0 g l P fl 0 σ0 τ0 σ τ) (he : e ≤ 2000) (hN : Nm m mc nc fl NV NA σ τ) (hk : kTk u e P = 1) : ∃ fl' t v σ1 τ1, M_X3_cellHere σ = some (t, σ1) ∧ M_X9_known τ = some (if P < 400 then (v, uI τ1 0 11 (nI (P + 1))) else (0, flM τ 2 (sq u e P))) ∧ Bs u e n0 g l P fl' 1 σ0 τ0 σ1 τ1 ∧ (fl' = 0 → fl = 0 ∧ ∃ j, j < nc ∧ t = nI j ∧ v = nI j) ∧ LtC σ σ1 ∧ LtM τ τ1 := by
  obtain ⟨st, kd⟩ := b_start h
  obtain ⟨_, _, r3, _, _, r6, r7, _⟩ := h.row
  obtain ⟨r3, r3'⟩ := r3 hk
  have r7 := r7 hk
  have hR := h.1.1
  have hP := h.1.2.1
  have h64 := h.2.1.2.2.1
  have h27 := h.2.1.2.2.2.1
  have h29 := h.2.2.2.1.1
  have hfl := h.2.2.2.1.2.2.1
  have h11 := h.2.2.1.2.1
  have h13 := h.2.2.1.2.2.1
  have h15 := h.2.2.2.1.2.1
  have hnm : M_X6_name σ = some (lN (cv 8 (vTk u e P))) := by
    unfold M_X6_name
    rw [h64, chk_pos ((ib_nI (by omega)).mpr (by omega)), ix_nI (by omega), r3]
  have hmu := b_must h (k := 1) (by decide)
  rw [if_pos hk] at hmu
  have hmu : M_X9_must τ 1 = _ := hmu
  -- the class
  have cl : ∃ t, M_X3_cellHere σ = some (t, if t = -1 then ltC σ fl 4 (sq u e P) else σ) ∧ ((∃ i, i < mc ∧ NV i = vTk u e P ∧ t = (if NA i < 10 then nI (NA i) else -1)) ∨ ((∀ i, i < mc → NV i ≠ vTk u e P) ∧ t = -1)) := by
    have j47 : ∀ t0, M_X3_cellHere_J47 σ t0 = some (t0, if t0 = -1 then ltC σ fl 4 (sq u e P) else σ) := fun t0 => by
      unfold M_X3_cellHere_J47
      by_cases q : t0 = -1
      · rw [if_neg (fun z => z q), if_pos q, st, bnd1_some, show (4 : Int32) = nI 4 from rfl, c_late h29 hfl, bnd1_some]
      · rw [if_pos q, if_neg q]
    unfold M_X3_cellHere
    rw [h27, if_neg z00, kd, bnd1_some, hk, if_pos (show nI (ck 1) = 2 from rfl), hnm, bnd1_some]
    rcases c_find hN r3' with ⟨i, i1, i2, i3⟩ | ⟨i1, i3⟩
    · have hmc := hN.2.2.2.1
      obtain ⟨_, _, a3, _⟩ := hN.2.2.2.2.1 i i1
      rw [i3, bnd1_some, if_pos (show nI i ≠ -1 from fun z => nI_n0 (show i < 2 ^ 31 by omega) (by rw [z]; decide)), chk_pos ((ib_nI (by omega)).mpr (by omega)), ix_nI (by omega), a3, j47]
      exact ⟨_, rfl, Or.inl ⟨i, i1, i2, rfl⟩⟩
    · rw [i3, bnd1_some, if_neg (fun z => z rfl), j47]
      exact ⟨-1, rfl, Or.inr ⟨i1, rfl⟩⟩
  -- the model
  have hNu : Nm m mc nc fl NV NA σ (uI τ 0 11 (nI (P + 1))) := Nm_eq (σ' := σ) (τ' := uI τ 0 11 (nI (P + 1))) hN rfl (by rw [gI_uI, if_neg (by omega)]) rfl rfl rfl (by funext j; show gI (uI τ 0 11 (nI (P + 1))) 9 j = _; rw [gI_uI, if_neg (by omega)]; rfl) (fun z => z)
  have mk : ∃ v τ1, (τ1 = τ ∨ τ1 = ltM τ fl 4 (sq u e P)) ∧ M_X9_known τ = some (if P < 400 then (v, uI τ1 0 11 (nI (P + 1))) else (0, flM τ 2 (sq u e P))) ∧ ((∃ i, i < m ∧ NV i = vTk u e P ∧ NA i < 10 ∧ v = nI (NA i) ∧ τ1 = τ) ∨ ((∀ i, i < m → NV i = vTk u e P → 10 ≤ NA i) ∧ τ1 = ltM τ fl 4 (sq u e P))) := by
    unfold M_X9_known
    simp only [lt_eq]
    rw [hmu, bnd1_some, h11]
    by_cases h4 : P < 400
    · rw [if_pos h4, show gI (uI τ 0 11 (nI (P + 1))) 0 13 = 0 by rw [gI_uI, if_neg (by omega)]; exact h13, if_pos (show (0 : Int32) ≤ 0 by decide)]
      have h6u : gL (uI τ 0 11 (nI (P + 1))) 6 P = lN (vTk u e P) := r7
      rcases m_find hNu r3' (show P < 403 by omega) h6u with ⟨i, i1, i2, i3, i4⟩ | ⟨i1, i4⟩
      · rw [i4, bnd1_some]
        exact ⟨nI (NA i), τ, Or.inl rfl, by rw [if_pos h4]; rfl, Or.inl ⟨i, i1, i2, i3, rfl, rfl⟩⟩
      · rw [i4, bnd1_some]
        refine ⟨0, ltM τ fl 4 (sq u e P), Or.inr rfl, ?_, Or.inr ⟨i1, rfl⟩⟩
        rw [if_pos h4]
        show bnd1 (M_X9_wrong (uI τ 0 11 (nI (P + 1))) (nI 4) (nI P)) _ = _
        rw [m_wrong (u := u) (e := e) (fl := fl) (show P < 403 by omega) (by rw [gI_uI, if_neg (by omega)]; exact h13) (by rw [gI_uI, if_neg (by omega)]; exact h15) hfl (by rw [gI_uI, if_neg (by omega)]; exact r6) hR he (fun z => by
          obtain ⟨j, j1, _, j3⟩ := h.2.2.2.1.2.2.2 z
          exact ⟨j, by omega, by rw [gI_uI, if_neg (by omega)]; exact j3⟩), bnd1_some]
        have e1 : ltM (uI τ 0 11 (nI (P + 1))) fl 4 (sq u e P) = uI (ltM τ fl 4 (sq u e P)) 0 11 (nI (P + 1)) := by
          unfold ltM
          by_cases h0 : fl = 0
          · rw [if_pos h0, if_pos h0, uI_comm (c := 0) (k := 11) (c' := 0) (k' := 15) (by omega), uI_comm (c := 0) (k := 11) (c' := 0) (k' := 16) (by omega)]
          · rw [if_neg h0, if_neg h0]
        rw [e1]
    · rw [if_neg h4, show gI (flM τ 2 (sq u e P)) 0 13 = nI 2 by unfold flM; rw [gI_uI, if_neg (by omega), gI_s], if_neg (show ¬ nI 2 ≤ 0 by decide)]
      by_cases q : ∃ i, i < m ∧ NV i = vTk u e P ∧ NA i < 10
      · obtain ⟨i, i1, i2, i3⟩ := q
        exact ⟨nI (NA i), τ, Or.inl rfl, by rw [if_neg h4], Or.inl ⟨i, i1, i2, i3, rfl, rfl⟩⟩
      · exact ⟨0, ltM τ fl 4 (sq u e P), Or.inr rfl, by rw [if_neg h4], Or.inr ⟨fun i i1 i2 => Classical.byContradiction fun z => q ⟨i, i1, i2, by omega⟩, rfl⟩⟩
  obtain ⟨t, c1, c2⟩ := cl
  obtain ⟨v, τ1, _, m1, m2⟩ := mk
  by_cases h0 : fl = 0
  · have hd := hN.2.2.2.2.2.2.2.2 h0
    by_cases ht : t = -1
    · have m3 : τ1 = ltM τ fl 4 (sq u e P) := by
        rcases m2 with ⟨i, i1, i2, i3, i4, _⟩ | ⟨_, q⟩
        · exfalso
          rcases c2 with ⟨k, k1, k2, k3⟩ | ⟨k1, _⟩
          · have : k = i := hd k i k1 (by have := hN.2.2.1; omega) (k2.trans i2.symm)
            rw [this, if_pos i3, ht] at k3
            exact nI_n0 (show NA i < 2 ^ 31 by omega) (by rw [← k3]; decide)
          · exact k1 i (by have := hN.2.2.1; omega) i2
        · exact q
      rw [if_pos ht] at c1
      subst m3
      have hb := h.late (f := 4) (j := P) (pd' := 1) (by omega) (by omega) (by omega) (by omega)
      rw [if_pos h0] at hb
      exact ⟨4, t, v, _, _, c1, m1, hb, fun z => absurd z (by decide), LtC_mk, LtM_mk⟩
    · rw [if_neg ht] at c1
      rcases c2 with ⟨k, k1, k2, k3⟩ | ⟨_, k3⟩
      · have hk10 : NA k < 10 := Classical.byContradiction fun z => ht (by rw [k3, if_neg z])
        have hkm : k < m := Classical.byContradiction fun z => by
          have := hN.2.2.2.2.2.2.1 k (by omega) k1; omega
        rw [if_pos hk10] at k3
        rcases m2 with ⟨i, i1, i2, i3, i4, i5⟩ | ⟨q, _⟩
        · have e0 : k = i := hd k i k1 (by have := hN.2.2.1; omega) (k2.trans i2.symm)
          subst e0
          subst i5
          obtain ⟨_, _, _, a4⟩ := hN.2.2.2.2.1 k k1
          exact ⟨0, t, v, _, _, c1, m1, by rw [← h0]; exact h.pend, fun _ => ⟨h0, NA k, by omega, k3, i4⟩, ⟨fun _ _ _ => rfl, rfl⟩, ⟨fun _ _ _ => rfl, rfl⟩⟩
        · have := q k hkm k2; omega
      · exact absurd k3 ht
  · have eC : (if t = -1 then ltC σ fl 4 (sq u e P) else σ) = σ := by
      unfold ltC
      rw [if_neg h0, ite_self]
    rw [eC] at c1
    have eM : τ1 = τ := by
      rcases m2 with ⟨_, _, _, _, _, q⟩ | ⟨_, q⟩
      · exact q
      · rw [q]; unfold ltM; rw [if_neg h0]
    subst eM
    exact ⟨fl, t, v, _, _, c1, m1, h.pend, fun z => absurd z h0, ⟨fun _ _ _ => rfl, rfl⟩, ⟨fun _ _ _ => rfl, rfl⟩⟩
end LT
