/-! a name told, on both sides -/
theorem Bs.wN {u : Nat → Nat} {e n0 g l P fl pd : Nat} {σ0 τ0 σ τ : Wd} {k : Nat} {v : Int64} (h : Bs u e n0 g l P fl pd σ0 τ0 σ τ) : Bs u e n0 g l P fl pd σ0 τ0 (uL σ 3 k v) τ := by
  obtain ⟨a, ⟨b1, b2, b3, b4, b5, bg, bf⟩, c, d, s⟩ := h
  exact ⟨a, ⟨b1, b2, b3, b4, b5, bg, bf.wL⟩, c, d, s⟩
theorem Bs.wN8 {u : Nat → Nat} {e n0 g l P fl pd : Nat} {σ0 τ0 σ τ : Wd} {k : Nat} {v : Int64} (h : Bs u e n0 g l P fl pd σ0 τ0 σ τ) : Bs u e n0 g l P fl pd σ0 τ0 σ (uL τ 8 k v) := by
  obtain ⟨a, b, ⟨c1, c2, c3, c4, cl, cf⟩, d, s⟩ := h
  exact ⟨a, b, ⟨c1, c2, c3, c4, cl, cf.wL⟩, d, s⟩
/-- the class keeps a name -/
def kpN (σ : Wd) (m x : Nat) (a : Int32) : Wd := uI (uI (uL σ 3 m (lN (cv 8 x))) 4 m a) 2 3 (nI (m + 1))
/-- the model keeps a name -/
def kpM (τ : Wd) (m x : Nat) (a : Int32) : Wd := uI (uI (uL τ 8 m (lN x)) 9 m a) 0 20 (nI (m + 1))
section NM2
variable {u : Nat → Nat} {e n0 g l P fl pd m nc : Nat} {NV NA : Nat → Nat} {σ0 τ0 σ τ : Wd}
theorem Bs.kp (h : Bs u e n0 g l P fl pd σ0 τ0 σ τ) {x : Nat} {a : Int32} : Bs u e n0 g l P fl pd σ0 τ0 (kpN σ m x a) τ := by
  have hg := h.2.1.2.2.2.2.2.1
  unfold kpN
  exact (Bs.wC (Bs.wC h.wN (by omega) (fun z => by omega) (fun z => by omega)) (Or.inl rfl) (fun _ => by omega) (fun z => by omega))
theorem Bs.km (h : Bs u e n0 g l P fl pd σ0 τ0 σ τ) {x : Nat} {a : Int32} : Bs u e n0 g l P fl pd σ0 τ0 σ (kpM τ m x a) := by
  unfold kpM
  exact (Bs.wM (Bs.wM h.wN8 (by unfold okm; omega) (fun z => by omega)) (by unfold okm; omega) (fun _ => by omega))
theorem sub_lt_of {m i k : Nat} (h : k = m - i) (h0 : ¬ m ≤ i) : m - (i + 1) < k ∧ i + 1 ≤ m ∧ i < i + 1 ∧ i < m := by omega
theorem named_loop {fl : Nat} (he : e ≤ 2000) (hN : Nm m m nc fl NV NA σ τ) {x w : Nat} (hx : x < 27 ^ 8) (hw : w < 403) (hfl : fl ≤ 6) (h6 : gL τ 6 w = lN x) (h13 : gI τ 0 13 = 0) (h15 : gI τ 0 15 = nI fl) (h4 : gI τ 4 w = nI (sq u e w)) (hRw : Rch u e w) (h16 : fl ≠ 0 → ∃ j, j < w ∧ gI τ 0 16 = nI (sq u e j)) : ∃ τ1, (iter (fun s : Int32 × Wd => M_X9_named_L12 (nI w) s.1 s.2) FU ((0 : Int32), τ)) = some τ1 ∧ ((τ1 = τ ∧ (fl = 0 → ∀ j, j < m → NV j ≠ x)) ∨ (τ1 = ltM τ fl 3 (sq u e w) ∧ ∃ j, j < m ∧ NV j = x)) := by
  obtain ⟨a1, a2, a3, a4, a5, a6, a7, a8, a9⟩ := hN
  have hL := LtM_mk (τ := τ) (fl := fl) (f := 3) (p := sq u e w)
  have q := ow_iter (body := fun s : Int32 × Wd => M_X9_named_L12 (nI w) s.1 s.2) (Q := fun y => (y = τ ∧ (fl = 0 → ∀ j, j < m → NV j ≠ x)) ∨ (y = ltM τ fl 3 (sq u e w) ∧ ∃ j, j < m ∧ NV j = x)) (fun k s => ∃ i, i ≤ m ∧ k = m - i ∧ s.1 = nI i ∧ ((s.2 = τ ∧ (fl = 0 → ∀ j, j < i → NV j ≠ x)) ∨ (s.2 = ltM τ fl 3 (sq u e w) ∧ ∃ j, j < i ∧ NV j = x))) (fun k s ⟨i, hi, hk, hs, hj⟩ => by
    obtain ⟨s1, s2⟩ := s
    have hs : s1 = nI i := hs
    subst hs
    have hj : ((s2 = τ ∧ (fl = 0 → ∀ j, j < i → NV j ≠ x)) ∨ (s2 = ltM τ fl 3 (sq u e w) ∧ ∃ j, j < i ∧ NV j = x)) := hj
    have o : ∀ c j, ¬ (c = 0 ∧ (j = 15 ∨ j = 16)) → gI s2 c j = gI τ c j := by
      rcases hj with ⟨z, _⟩ | ⟨z, _⟩
      · rw [z]; exact fun _ _ _ => rfl
      · rw [z]; exact hL.1
    have o2 : s2.2 = τ.2 := by
      rcases hj with ⟨z, _⟩ | ⟨z, _⟩
      · rw [z]
      · rw [z]; exact hL.2
    have oL : ∀ c j, gL s2 c j = gL τ c j := fun c j => by show s2.2.1 c j = _; rw [o2]; rfl
    show ow (M_X9_named_L12 (nI w) (nI i) s2) _
    unfold M_X9_named_L12
    rw [o 0 20 (by omega), a2, o 0 13 (by omega), h13]
    by_cases h0 : m ≤ i
    · rw [if_pos ((nI_leI (by omega) (by omega)).mpr h0)]
      have e0 : i = m := by omega
      subst e0
      exact ow_some.mpr hj
    · obtain ⟨b1, b2, b3, b4⟩ := a5 i (by omega)
      obtain ⟨d1, d2⟩ := a6 i (by omega)
      have ci : ib (nI i) 12 := (ib_nI (by omega)).mpr (by omega)
      rw [if_neg (fun z => h0 ((nI_leI (by omega) (by omega)).mp z)), if_neg z00, chk_pos ci, chk_pos ((ib_nI (by omega)).mpr hw), ix_nI (by omega), ix_nI (show w < 2 ^ 31 by omega), oL, oL, d1, h6]
      simp only [lt_eq]
      rw [nI_1]
      have nx : NV i ≠ x → lg_cmp (lN (NV i)) (lN x) ≠ 0 := fun hq z => hq (lN_in (Nat.lt_of_lt_of_le b2 (by decide)) (Nat.lt_of_lt_of_le hx (by decide)) ((lg_cmp_eq _ _).mp z))
      by_cases hq : NV i = x
      · rw [if_neg (fun z => z ((lg_cmp_eq _ _).mpr (by rw [hq])))]
        have hW : M_X9_wrong s2 3 (nI w) = some (ltM τ fl 3 (sq u e w)) := by
          by_cases f0 : fl = 0
          · rcases hj with ⟨z, _⟩ | ⟨z, j, j1, j2⟩
            · subst z
              exact m_wrong (f := 3) hw h13 h15 hfl h4 hRw he h16
            · exact absurd (a9 f0 j i (by omega) (by omega) (j2.trans hq.symm)) (by omega)
          · have z : s2 = τ := by
              rcases hj with ⟨z, _⟩ | ⟨z, _⟩
              · exact z
              · rw [z]; unfold ltM; rw [if_neg f0]
            subst z
            exact m_wrong (f := 3) hw h13 h15 hfl h4 hRw he h16
        rw [hW, bnd1_some]
        exact ow_some.mpr ⟨m - (i + 1), (sub_lt_of hk h0).1, i + 1, (sub_lt_of hk h0).2.1, rfl, rfl, Or.inr ⟨rfl, i, (sub_lt_of hk h0).2.2.1, hq⟩⟩
      · rw [if_pos (nx hq)]
        refine ow_some.mpr ⟨m - (i + 1), (sub_lt_of hk h0).1, i + 1, (sub_lt_of hk h0).2.1, rfl, rfl, ?_⟩
        rcases hj with ⟨z, y⟩ | ⟨z, j, j1, j2⟩
        · refine Or.inl ⟨z, fun f0 j h => ?_⟩
          by_cases e0 : j = i
          · rw [e0]; exact hq
          · exact y f0 j (Nat.lt_of_le_of_ne (Nat.le_of_lt_succ h) e0)
        · exact Or.inr ⟨z, j, Nat.lt_succ_of_lt j1, j2⟩) FU (m - 0) ((0 : Int32), τ) (FU_big (by omega)) ⟨0, Nat.zero_le _, rfl, rfl, Or.inl ⟨rfl, fun _ j h => absurd h (Nat.not_lt_zero j)⟩⟩
  obtain ⟨y, h1, h2⟩ := q
  exact ⟨y, h1, h2⟩
/-- a name told -/
theorem b_named (h : Bs u e n0 g l P fl 0 σ0 τ0 σ τ) (he : e ≤ 2000) (hN : Nm m m nc fl NV NA σ τ) (hm : m < 12) (hk : kTk u e P = 1) (a : Int32) : ∃ fl' σ1 τ1, M_X3_keepName σ a = some (kpN σ1 m (vTk u e P) a) ∧ M_X9_named τ = some (nI P, if P < 400 then uI τ1 0 11 (nI (P + 1)) else flM τ 2 (sq u e P)) ∧ Bs u e n0 g l P fl' 1 σ0 τ0 σ1 τ1 ∧ (fl' = 0 → fl = 0 ∧ ∀ i, i < m → NV i ≠ vTk u e P) ∧ LtC σ σ1 ∧ LtM τ τ1 := by
  obtain ⟨st, kd⟩ := b_start h
  obtain ⟨_, _, r3, _, _, r6, r7, _⟩ := h.row
  obtain ⟨r3, r3'⟩ := r3 hk
  have r7 := r7 hk
  have hR := h.1.1
  have hP := h.1.2.1
  have h64 := h.2.1.2.2.1
  have h27 := h.2.1.2.2.2.1
  have h29 := h.2.2.2.1.1
  have hfl := h.2.2.2.1.2.2.1
  have h11 := h.2.2.1.2.1
  have h13 := h.2.2.1.2.2.1
  have h15 := h.2.2.2.1.2.1
  have h16 := h.2.2.2.1.2.2.2
  have hmu := b_must h (k := 1) (by decide)
  rw [if_pos hk] at hmu
  have hmu : M_X9_must τ 1 = _ := hmu
  have h23 := hN.1
  -- the class
  have nm : ∀ σx, (∀ c j, ¬ (c = 2 ∧ (j = 9 ∨ j = 10)) → gI σx c j = gI σ c j) → σx.2 = σ.2 → M_X6_name σx = some (lN (cv 8 (vTk u e P))) ∧ M_X3_keepName_J55 σx a = some (kpN σx m (vTk u e P) a) := fun σx o1 o2 => by
    have hnm : M_X6_name σx = some (lN (cv 8 (vTk u e P))) := by
      unfold M_X6_name
      rw [o1 6 4 (by omega), h64, chk_pos ((ib_nI (by omega)).mpr (by omega)), ix_nI (by omega), show gL σx 9 P = gL σ 9 P by show σx.2.1 9 P = _; rw [o2]; rfl, r3]
    refine ⟨hnm, ?_⟩
    unfold M_X3_keepName_J55
    have z3 : gI σx 2 3 = nI m := (o1 2 3 (by omega)).trans h23
    simp only [lt_eq]
    have z4 : gI (uI (uL σx 3 (ix (nI m)) (lN (cv 8 (vTk u e P)))) 4 (ix (nI m)) a) 2 3 = nI m := by rw [gI_uI, if_neg (by omega), gI_uL]; exact z3
    have ci : ib (nI m) 12 := (ib_nI (by omega)).mpr hm
    rw [hnm, bnd1_some, z3, chk_pos ci, show gI (uL σx 3 (ix (nI m)) (lN (cv 8 (vTk u e P)))) 2 3 = nI m from z3, chk_pos ci, z4, nI_1, ix_nI (by omega)]
    rfl
  have cl : (∃ i, i < m ∧ NV i = vTk u e P ∧ M_X3_keepName σ a = some (kpN (ltC σ fl 3 (sq u e P)) m (vTk u e P) a)) ∨ ((∀ i, i < m → NV i ≠ vTk u e P) ∧ M_X3_keepName σ a = some (kpN σ m (vTk u e P) a)) := by
    obtain ⟨n1, n2⟩ := nm σ (fun _ _ _ => rfl) rfl
    unfold M_X3_keepName
    rw [h27, if_neg z00, kd, bnd1_some, hk, if_neg (show ¬ nI (ck 1) ≠ 2 from fun z => z rfl), h23, if_pos (show nI m < 12 from (nI_ltI (b := 12) (by omega) (by omega)).mpr hm), n1, bnd1_some]
    rcases c_find hN r3' with ⟨i, i1, i2, i3⟩ | ⟨i1, i3⟩
    · rw [i3, bnd1_some, if_neg (show ¬ nI i = -1 from fun z => nI_n0 (show i < 2 ^ 31 by omega) (by rw [z]; decide)), st, bnd1_some, show (3 : Int32) = nI 3 from rfl, c_late h29 hfl, bnd1_some]
      exact Or.inl ⟨i, i1, i2, (nm _ LtC_mk.1 LtC_mk.2).2⟩
    · rw [i3, bnd1_some, if_pos rfl]
      exact Or.inr ⟨i1, n2⟩
  -- the model
  have mk : ∃ τ1, M_X9_named τ = some (nI P, if P < 400 then uI τ1 0 11 (nI (P + 1)) else flM τ 2 (sq u e P)) ∧ (P < 400 → (τ1 = τ ∧ (fl = 0 → ∀ j, j < m → NV j ≠ vTk u e P)) ∨ (τ1 = ltM τ fl 3 (sq u e P) ∧ ∃ j, j < m ∧ NV j = vTk u e P)) := by
    unfold M_X9_named
    simp only [lt_eq]
    rw [hmu, bnd1_some, h11]
    by_cases h4 : P < 400
    · rw [if_pos h4]
      have hNu : Nm m m nc fl NV NA σ (uI τ 0 11 (nI (P + 1))) := Nm_eq (σ' := σ) (τ' := uI τ 0 11 (nI (P + 1))) hN rfl (by rw [gI_uI, if_neg (by omega)]) rfl rfl rfl (by funext j; show gI (uI τ 0 11 (nI (P + 1))) 9 j = _; rw [gI_uI, if_neg (by omega)]; rfl) (fun z => z)
      have h6u : gL (uI τ 0 11 (nI (P + 1))) 6 P = lN (vTk u e P) := r7
      obtain ⟨τ2, i1, i2⟩ := named_loop he hNu r3' (show P < 403 by omega) hfl h6u (by rw [gI_uI, if_neg (by omega)]; exact h13) (by rw [gI_uI, if_neg (by omega)]; exact h15) (by rw [gI_uI, if_neg (by omega)]; exact r6) hR (fun z => by
          obtain ⟨j, j1, _, j3⟩ := h16 z
          exact ⟨j, by omega, by rw [gI_uI, if_neg (by omega)]; exact j3⟩)
      rw [i1, bnd1_some]
      rcases i2 with ⟨rfl, i3⟩ | ⟨rfl, i3⟩
      · exact ⟨τ, by rw [if_pos h4]; rfl, fun _ => Or.inl ⟨rfl, i3⟩⟩
      · refine ⟨ltM τ fl 3 (sq u e P), ?_, fun _ => Or.inr ⟨rfl, i3⟩⟩
        rw [if_pos h4, ltM_uI (by omega)]
        rfl
    · rw [if_neg h4]
      have e1 : iter (fun s : Int32 × Wd => M_X9_named_L12 (nI P) s.1 s.2) FU ((0 : Int32), flM τ 2 (sq u e P)) = some (flM τ 2 (sq u e P)) := by
        have q := ow_iter (body := fun s : Int32 × Wd => M_X9_named_L12 (nI P) s.1 s.2) (Q := fun y => y = flM τ 2 (sq u e P)) (fun k s => k = 0 ∧ s.2 = flM τ 2 (sq u e P)) (fun k s ⟨_, hs⟩ => by
          obtain ⟨s1, s2⟩ := s
          have hs : s2 = _ := hs
          subst hs
          show ow (M_X9_named_L12 (nI P) s1 _) _
          unfold M_X9_named_L12
          rw [show gI (flM τ 2 (sq u e P)) 0 13 = nI 2 by unfold flM; rw [gI_uI, if_neg (by omega), gI_s], if_pos (show nI 2 ≠ 0 by decide)]
          by_cases c1 : gI (flM τ 2 (sq u e P)) 0 20 ≤ s1
          · rw [if_pos c1]; exact ow_some.mpr rfl
          · rw [if_neg c1]; exact ow_some.mpr rfl) FU 0 ((0 : Int32), flM τ 2 (sq u e P)) (FU_big (by omega)) ⟨rfl, rfl⟩
        obtain ⟨y, h1, h2⟩ := q
        exact h1.trans (by rw [h2])
      rw [e1, bnd1_some]
      exact ⟨τ, by rw [if_neg h4]; rfl, fun z => absurd z h4⟩
  obtain ⟨τ1, m1, m2⟩ := mk
  by_cases h4 : P < 400
  · have m2 := m2 h4
    rcases cl with ⟨i, i1, i2, c1⟩ | ⟨i1, c1⟩
    · have hb := h.late (f := 3) (j := P) (pd' := 1) (by omega) (by omega) (by omega) (by omega)
      have e1 : τ1 = ltM τ fl 3 (sq u e P) := by
        rcases m2 with ⟨z, y⟩ | ⟨z, _⟩
        · by_cases f0 : fl = 0
          · exact absurd i2 (y f0 i i1)
          · rw [z]; unfold ltM; rw [if_neg f0]
        · exact z
      subst e1
      refine ⟨_, _, _, c1, m1, hb, fun z => ?_, LtC_mk, LtM_mk⟩
      by_cases f0 : fl = 0
      · rw [if_pos f0] at z; omega
      · rw [if_neg f0] at z; omega
    · have e1 : τ1 = τ := by
        rcases m2 with ⟨z, _⟩ | ⟨_, j, j1, j2⟩
        · exact z
        · exact absurd j2 (i1 j j1)
      subst e1
      exact ⟨fl, _, _, c1, m1, h.pend, fun z => ⟨z, i1⟩, ⟨fun _ _ _ => rfl, rfl⟩, ⟨fun _ _ _ => rfl, rfl⟩⟩
  · have m1 : M_X9_named τ = some (nI P, if P < 400 then uI τ 0 11 (nI (P + 1)) else flM τ 2 (sq u e P)) := by
      rw [if_neg h4] at m1 ⊢
      exact m1
    rcases cl with ⟨i, i1, i2, c1⟩ | ⟨i1, c1⟩
    · have hb := h.late (f := 3) (j := P) (pd' := 1) (by omega) (by omega) (by omega) (by omega)
      have m1' : M_X9_named τ = some (nI P, if P < 400 then uI (ltM τ fl 3 (sq u e P)) 0 11 (nI (P + 1)) else flM τ 2 (sq u e P)) := by
        rw [if_neg h4] at m1 ⊢
        exact m1
      refine ⟨_, _, _, c1, m1', hb, fun z => ?_, LtC_mk, LtM_mk⟩
      by_cases f0 : fl = 0
      · rw [if_pos f0] at z; omega
      · rw [if_neg f0] at z; omega
    · exact ⟨fl, _, _, c1, m1, h.pend, fun z => ⟨z, i1⟩, ⟨fun _ _ _ => rfl, rfl⟩, ⟨fun _ _ _ => rfl, rfl⟩⟩
/-- no name stands there -/
theorem b_unnamed (h : Bs u e n0 g l P fl 0 σ0 τ0 σ τ) (hk : kTk u e P ≠ 1) (a : Int32) : M_X3_keepName σ a = some σ ∧ M_X3_take σ 2 = some (flC σ 1 (sq u e P)) ∧ M_X9_named τ = some (nI P, flM τ 1 (sq u e P)) := by
  obtain ⟨st, kd⟩ := b_start h
  have h27 := h.2.1.2.2.2.1
  have h11 := h.2.2.1.2.1
  have hmu := b_must h (k := 1) (by decide)
  have tk := b_take h (k := 1) (by decide) (by decide)
  rw [if_neg hk] at hmu tk
  refine ⟨?_, tk, ?_⟩
  · unfold M_X3_keepName
    rw [h27, if_neg z00, kd, bnd1_some, if_pos (show nI (ck (kTk u e P)) ≠ 2 from fun z => hk ((ck_eq kTk_VK.1 (b := 1) (by decide)).mp z))]
  · have hmu : M_X9_must τ 1 = _ := hmu
    unfold M_X9_named
    simp only [lt_eq]
    rw [hmu, bnd1_some, h11]
    have q := ow_iter (body := fun s : Int32 × Wd => M_X9_named_L12 (nI P) s.1 s.2) (Q := fun y => y = flM τ 1 (sq u e P)) (fun k s => k = 0 ∧ s.2 = flM τ 1 (sq u e P)) (fun k s ⟨_, hs⟩ => by
      obtain ⟨s1, s2⟩ := s
      have hs : s2 = _ := hs
      subst hs
      show ow (M_X9_named_L12 (nI P) s1 _) _
      unfold M_X9_named_L12
      rw [show gI (flM τ 1 (sq u e P)) 0 13 = nI 1 by unfold flM; rw [gI_uI, if_neg (by omega), gI_s], if_pos (show nI 1 ≠ 0 by decide)]
      by_cases c1 : gI (flM τ 1 (sq u e P)) 0 20 ≤ s1
      · rw [if_pos c1]; exact ow_some.mpr rfl
      · rw [if_neg c1]; exact ow_some.mpr rfl) FU 0 ((0 : Int32), flM τ 1 (sq u e P)) (FU_big (by omega)) ⟨rfl, rfl⟩
    obtain ⟨y, h1, h2⟩ := q
    rw [show iter (fun s : Int32 × Wd => M_X9_named_L12 (nI P) s.1 s.2) FU ((0 : Int32), flM τ 1 (sq u e P)) = some y from h1, bnd1_some, h2]
    rfl
end NM2
/-- the model keeps the name that stands at the token w -/
theorem m_keeps {τ : Wd} {m w x : Nat} {a : Int32} (hm : m < 12) (hw : w < 403) (h20 : gI τ 0 20 = nI m) (h6 : gL τ 6 w = lN x) : M_X9_keepsName τ (nI w) a = some (kpM τ m x a) := by
  unfold M_X9_keepsName
  have ci : ib (nI m) 12 := (ib_nI (by omega)).mpr hm
  simp only [lt_eq]
  rw [h20, chk_pos ((ib_nI (by omega)).mpr hw), chk_pos ci, ix_nI (show w < 2 ^ 31 by omega), h6, show gI (uL τ 8 (ix (nI m)) (lN x)) 0 20 = nI m from h20, chk_pos ci, show gI (uI (uL τ 8 (ix (nI m)) (lN x)) 9 (ix (nI m)) a) 0 20 = nI m by rw [gI_uI, if_neg (by omega)]; exact h20, nI_1, ix_nI (by omega)]
  rfl
