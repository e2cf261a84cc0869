/-! the end of the telling -/
theorem FRc.trans {g : Nat} {a b c : Wd} (h : FRc g a b) (h2 : FRc g b c) : FRc g a c := ⟨fun i p q r s t => (h2.1 i p q r s t).trans (h.1 i p q r s t), fun i p => (h2.2.1 i p).trans (h.2.1 i p), h2.2.2.trans h.2.2⟩
theorem FRm.trans {l : Nat} {a b c : Wd} (h : FRm l a b) (h2 : FRm l b c) : FRm l a c := ⟨fun i j p => (h2.1 i j p).trans (h.1 i j p), fun i p => (h2.2.1 i p).trans (h.2.1 i p), h2.2.2.trans h.2.2⟩
section RE
variable {u : Nat → Nat} {e n0 g l : Nat} {σ0 τ0 σ τ : Wd}
/-- how the reading ends: with a fault, or with a text -/
def RdE (g l : Nat) (σ0 τ0 : Wd) (x : Option (Int32 × Wd)) (y : Option (Int32 × Wd)) : Prop :=
  (∃ r σ' τx v, r ≠ 0 ∧ x = some (r, σ') ∧ y = some (r, uI τx 0 17 v) ∧ gI σ' 2 8 = v ∧ FRc g σ0 σ' ∧ FRm l τ0 τx) ∨
  (∃ σ' τx, x = some (0, σ') ∧ y = M_X9_read_J190 τx (-1) ∧ gI σ' 2 8 = -1 ∧ gI τx 0 13 = 0 ∧ gI τx 0 15 = 0 ∧ gI τx 0 19 = nI l ∧ FRc g σ0 σ' ∧ FRm l τ0 τx ∧ ∃ T, TInv T ∧ TC T g σ' ∧ TM T l τx)
theorem c_J147 {g : Nat} {σ : Wd} : M_X3_readInto_J147 g σ = if gI σ 2 7 ≠ 0 then some (gI σ 2 7, σ) else some (gI σ 2 9, uI (uI σ 2 7 (gI σ 2 9)) 2 8 (gI σ 2 10)) := by
  unfold M_X3_readInto_J147 M_X3_readInto_J170
  simp only [lt_eq]
  rw [show gI (uI σ 2 7 (gI σ 2 9)) 2 10 = gI σ 2 10 by rw [gI_uI, if_neg (by omega)], show gI (uI (uI σ 2 7 (gI σ 2 9)) 2 8 (gI σ 2 10)) 2 7 = gI σ 2 9 by rw [gI_uI, if_neg (by omega), gI_s]]
theorem m_J190 {τ : Wd} {t r : Int32} (h13 : gI τ 0 13 = r) (hr : 0 < r) : M_X9_read_J190 τ t = some (r, uI τ 0 17 t) := by
  unfold M_X9_read_J190
  simp only [lt_eq]
  rw [show gI (uI τ 0 17 t) 0 13 = r by rw [gI_uI, if_neg (by omega)]; exact h13, if_neg (pos_ne hr).2]
theorem m_J190b {τ : Wd} {t r : Int32} (h13 : gI τ 0 13 = 0) (h15 : gI τ 0 15 = r) (hr : 0 < r) : M_X9_read_J190 τ t = some (r, uI τ 0 17 t) := by
  unfold M_X9_read_J190
  simp only [lt_eq]
  rw [show gI (uI τ 0 17 t) 0 13 = 0 by rw [gI_uI, if_neg (by omega)]; exact h13, if_pos (show (0 : Int32) ≤ 0 by decide), show gI (uI τ 0 17 t) 0 15 = r by rw [gI_uI, if_neg (by omega)]; exact h15, if_neg (pos_ne hr).2]
theorem read_end (he : e ≤ 2000) (h : LpE u e n0 g l σ0 τ0 σ τ) : RdE g l σ0 τ0 (M_X3_readInto_J123 g σ (nI e)) (M_X9_read_J122 τ) := by
  rcases h with ⟨σf, τf, w1, w2, w3, w4, w5, w6⟩ | ⟨P, fl, s, c, f, NV, NA, k0, hB, ⟨s1, s2, s3, s4⟩, ⟨d1, d2, d3, d4, d5, d6⟩, hN, hT⟩
  · -- a fault
    have hg := w5.2.2.2.2.2.1
    have h26 := w5.2.2.2.2.1
    refine Or.inl ?_
    have cc : ∃ σ', M_X3_readInto_J123 g σ (nI e) = M_X3_readInto_J147 g σ' ∧ CFT g σf σ' := by
      unfold M_X3_readInto_J123
      rw [h26, chk_pos hg, chk_pos hg]
      by_cases a : gI σ g 1 < gI σ g 0
      · rw [if_pos a]; exact ⟨σ, rfl, w5⟩
      · rw [if_neg a]
        obtain ⟨σ', t1, t2⟩ := F_later w5 6 (nI e)
        rw [t1, bnd1_some]
        exact ⟨σ', rfl, t2⟩
    obtain ⟨σ', c1, c2⟩ := cc
    refine ⟨gI τ 0 13, σ', τ, gI τ 0 14, (pos_ne w6.2.1).1, ?_, ?_, ?_, w1.trans c2.1, w2.trans w6.1⟩
    · rw [c1, c_J147, if_pos c2.2.1, c2.2.2.1, w3, ← w6.2.2.1]
    · unfold M_X9_read_J122 M_X9_read_J160
      rw [if_pos (pos_ne w6.2.1).1, if_neg (pos_ne w6.2.1).2]
      exact m_J190 rfl w6.2.1
    · exact c2.2.2.2.1.trans (w4.trans w6.2.2.2.1.symm)
  · have hg := hB.2.1.2.2.2.2.2.1
    have hl := hB.2.2.1.2.2.2.2.1
    have h26 := hB.2.1.2.2.2.2.1
    have h27 := hB.2.1.2.2.2.1
    have h13 := hB.2.2.1.2.2.1
    have h19 := hB.2.2.1.2.2.2.1
    have h11 := hB.2.2.1.2.1
    have hP := hB.1.2.1
    have hR := hB.1.1
    have f1 := hB.2.2.2.1.1
    have f2 := hB.2.2.2.1.2.1
    have f3 := hB.2.2.2.1.2.2.1
    have f4 := hB.2.2.2.1.2.2.2
    have bf := hB.2.1.2.2.2.2.2.2
    have mf := hB.2.2.1.2.2.2.2.2
    obtain ⟨s', s5, s6, s7⟩ := hB.2.2.2.2
    have hsq : sq u e P = e := by
      have a1 := sq_le P hR
      have a2 : ¬ sq u e P < e := fun z => (kTk_VK (u := u) (e := e) (k := P)).2.1 z k0
      omega
    -- what a later fault ends in
    have late : ∀ fl' σ1 τ1, fl' ≠ 0 → Bs u e n0 g l P fl' 1 σ0 τ0 σ1 τ1 → ∃ v, M_X3_readInto_J147 g σ1 = some (nI fl', uI (uI σ1 2 7 (nI fl')) 2 8 v) ∧ M_X9_read_J160 τ1 = some (nI fl', uI τ1 0 17 v) ∧ nI fl' ≠ 0 := fun fl' σ1 τ1 h0 hb => by
      have g3 := hb.2.2.2.1.2.2.1
      obtain ⟨j, j1, j2, j3⟩ := hb.2.2.2.1.2.2.2 h0
      have hn : nI fl' ≠ 0 := nI_ne0 (by omega) (by omega)
      have hp : (0 : Int32) < nI fl' := (nI_ltI (a := 0) (by omega) (by omega)).mpr (by omega)
      refine ⟨nI (sq u e j), ?_, ?_, hn⟩
      · rw [c_J147, hb.2.1.2.2.2.1, if_neg z00, hb.2.2.2.1.1, j2]
      · unfold M_X9_read_J160
        rw [hb.2.2.1.2.2.1, if_pos (show (0 : Int32) ≤ 0 by decide), hb.2.2.2.1.2.1, if_neg (pos_ne hp).2, j3]
        exact m_J190b hb.2.2.1.2.2.1 hb.2.2.2.1.2.1 hp
    have lateR : ∀ fl' σ1 τ1, fl' ≠ 0 → Bs u e n0 g l P fl' 1 σ0 τ0 σ1 τ1 → M_X3_readInto_J123 g σ (nI e) = M_X3_readInto_J147 g σ1 → M_X9_read_J122 τ = M_X9_read_J160 τ1 → RdE g l σ0 τ0 (M_X3_readInto_J123 g σ (nI e)) (M_X9_read_J122 τ) := fun fl' σ1 τ1 h0 hb e1 e2 => by
      obtain ⟨v, v1, v2, v3⟩ := late fl' σ1 τ1 h0 hb
      exact Or.inl ⟨nI fl', _, τ1, v, v3, e1.trans v1, e2.trans v2, gI_s, FRc.wI (Or.inl rfl) (FRc.wI (Or.inl rfl) hb.2.1.2.2.2.2.2.2), hb.2.2.1.2.2.2.2.2⟩
    have hW : M_X9_wrong τ 6 (nI P) = some (ltM τ fl 6 (sq u e P)) := m_wrong (f := 6) (by omega) h13 f2 f3 hB.row.2.2.2.2.2.1 hR he (fun z => by
      obtain ⟨j, j1, _, j3⟩ := f4 z
      exact ⟨j, by omega, j3⟩)
    have hL : M_X3_failLater σ 6 (nI e) = some (ltC σ fl 6 (sq u e P)) := by rw [hsq]; exact c_late (f := 6) f1 f3
    have hbl := hB.late (f := 6) (j := P) (pd' := 1) (by decide) (by omega) (by omega) (by omega)
    have eC : M_X3_readInto_J123 g σ (nI e) = if gI σ g 1 < gI σ g 0 then M_X3_readInto_J147 g σ else M_X3_readInto_J147 g (ltC σ fl 6 (sq u e P)) := by
      unfold M_X3_readInto_J123
      rw [h26, chk_pos hg, chk_pos hg, hL, bnd1_some]
    have eM : M_X9_read_J122 τ = if gI τ 11 l < gI τ 10 l then M_X9_read_J160 τ else M_X9_read_J160 (ltM τ fl 6 (sq u e P)) := by
      unfold M_X9_read_J122
      rw [h13, if_neg z00, h19, chk_pos ((ib_nI (by omega)).mpr hl), chk_pos ((ib_nI (by omega)).mpr hl), ix_nI (by omega), h11, hW, bnd1_some]
    by_cases h0 : fl = 0
    · subst h0
      obtain ⟨T, t1, t2, t3, t4, t5, t6, t7, t8, t9⟩ := hT rfl
      obtain ⟨⟨x1, x2, x3, x4, x5⟩, xb, xc⟩ := t1.1
      obtain ⟨⟨y1, y2, y3, y4, y5⟩, yb, yc⟩ := t2.1
      by_cases hp : tP T < tN T
      · refine Or.inr ⟨uI (uI σ 2 7 0) 2 8 (-1), τ, ?_, ?_, gI_s, h13, f2, h19, FRc.wI (Or.inl rfl) (FRc.wI (Or.inl rfl) bf), mf, T, ⟨t5, t6, hp, t8, by omega, by omega, t9⟩, ?_, t2.1⟩
        · rw [eC, if_pos (by rw [x1, x2]; exact (nI_ltI (by omega) (by omega)).mpr hp), c_J147, h27, if_neg z00, f1, s7 rfl]
          rfl
        · rw [eM, if_pos (by rw [y1, y2]; exact (nI_ltI (by omega) (by omega)).mpr hp)]
          unfold M_X9_read_J160
          rw [h13, if_pos (show (0 : Int32) ≤ 0 by decide), f2, if_pos (show nI 0 ≤ 0 by decide)]
        · refine TC_eq (fun j hj => ?_) t1.1
          funext k
          show gI (uI (uI σ 2 7 0) 2 8 (-1)) _ k = gI σ _ k
          rw [gI_uI, if_neg (by omega), gI_uI, if_neg (by omega)]
      · refine lateR _ _ _ (show (if 0 = 0 then 6 else 0) ≠ 0 by decide) hbl ?_ ?_
        · rw [eC, if_neg (by rw [x1, x2]; exact fun z => hp ((nI_ltI (by omega) (by omega)).mp z))]
        · rw [eM, if_neg (by rw [y1, y2]; exact fun z => hp ((nI_ltI (by omega) (by omega)).mp z))]
    · have e1 : ltC σ fl 6 (sq u e P) = σ := by unfold ltC; rw [if_neg h0]
      have e2 : ltM τ fl 6 (sq u e P) = τ := by unfold ltM; rw [if_neg h0]
      rw [e1, ite_self] at eC
      rw [e2, ite_self] at eM
      exact lateR fl σ τ h0 hB.pend eC eM
end RE
