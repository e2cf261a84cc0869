/-! soon, year -/
theorem al2_loop {body : Int32 → Option (Int32 ⊕ (Unit ⊕ Int32))} {n i0 : Nat} {C : Nat → Bool} (hn : n < 1000) (h0 : i0 ≤ n) (hb : ∀ i, i0 ≤ i → i ≤ n → body (nI i) = if n ≤ i then some (.inr (.inl ())) else if C i = true then some (.inl (nI (i + 1))) else some (.inr (.inr 0))) : ((∃ i, i0 ≤ i ∧ i < n ∧ C i = false) ∧ iter body FU (nI i0) = some (.inr 0)) ∨ ((∀ i, i0 ≤ i → i < n → C i = true) ∧ iter body FU (nI i0) = some (.inl ())) := by
  obtain ⟨x, h1, h2⟩ := ow_iter (body := body) (Q := fun x => ((∃ i, i0 ≤ i ∧ i < n ∧ C i = false) ∧ x = .inr 0) ∨ ((∀ i, i0 ≤ i → i < n → C i = true) ∧ x = .inl ())) (fun k s => ∃ i, i0 ≤ i ∧ i ≤ n ∧ k = n - i ∧ s = nI i ∧ ∀ j, i0 ≤ j → j < i → C j = true) (fun k s ⟨i, hi0, hi, hk, hs, hj⟩ => by
    subst hs
    rw [hb i hi0 hi]
    by_cases h0 : n ≤ i
    · rw [if_pos h0]
      exact ow_some.mpr (Or.inr ⟨fun j h1 h2 => hj j h1 (by omega), rfl⟩)
    · rw [if_neg h0]
      cases hc : C i with
      | true =>
        rw [if_pos rfl]
        refine ow_some.mpr ⟨n - (i + 1), by omega, i + 1, by omega, by omega, rfl, rfl, fun j h1 h2 => ?_⟩
        by_cases hji : j = i
        · subst hji; exact hc
        · exact hj j h1 (by omega)
      | false =>
        rw [if_neg (by decide)]
        exact ow_some.mpr (Or.inl ⟨⟨i, hi0, by omega, hc⟩, rfl⟩)) FU (n - i0) (nI i0) (FU_big (by omega)) ⟨i0, Nat.le_refl _, h0, rfl, rfl, fun j h1 h2 => by omega⟩
  rcases h2 with ⟨a, e⟩ | ⟨a, e⟩
  · exact Or.inl ⟨a, by rw [h1, e]⟩
  · exact Or.inr ⟨a, by rw [h1, e]⟩
def alC (g : Gs) (c : Nat) : Bool := decide (lkN g 0 c (gW g) = 0) && (decide (lkN g c 0 (gW g) = 0) && decide (gK g 0 = gK g c))
def SetT (T : Td) (g : Gs) : Prop := (∀ c, 1 ≤ c → c < tN T → alC g c = true) ∧ gO g = gW g
theorem m_areAlike {T : Td} {t l : Nat} {g : Gs} {σ τ : Wd} (h : Qd T t l g σ τ) {c : Nat} (hc : c < 5) : M_X9_areAlike τ (nI 0) (nI c) = some (if alC g c = true then 1 else 0) := by
  obtain ⟨hW, hO, hP, hn⟩ := q_bd h
  have k0 := q_K h (c := 0) (by decide)
  have kc := q_K h hc
  have e1 := lkN_le (g := g) (a := 0) (b := c) (gW g)
  have e2 := lkN_le (g := g) (a := c) (b := 0) (gW g)
  have z0 : ∀ {n : Nat}, n ≤ 60 → (nI n ≠ 0 ↔ n ≠ 0) := fun {n} hn => nI_ne (a := n) (b := 0) (by omega) (by decide)
  unfold M_X9_areAlike
  rw [m_lacks h (by decide) hc, bnd1_some, m_lacks h hc (by decide), bnd1_some, (q_known h (c := 0) (by decide)).2, bnd1_some, (q_known h hc).2, bnd1_some]
  unfold alC
  by_cases a1 : lkN g 0 c (gW g) = 0
  · rw [if_neg (fun z => (z0 (by omega)).mp z a1)]
    by_cases a2 : lkN g c 0 (gW g) = 0
    · rw [if_neg (fun z => (z0 (by omega)).mp z a2)]
      by_cases a3 : gK g 0 = gK g c
      · rw [if_neg (fun z => z (by rw [a3]))]
        simp [a1, a2, a3]
      · rw [if_pos (show nI (gK g 0) ≠ nI (gK g c) from fun z => a3 ((nI_eq (by omega) (by omega)).mp z))]
        simp [a3]
    · rw [if_pos ((z0 (by omega)).mpr a2)]
      simp [a2]
  · rw [if_pos ((z0 (by omega)).mpr a1)]
    simp [a1]
theorem m_settled {T : Td} {t l : Nat} {g : Gs} {σ τ : Wd} (h : Qd T t l g σ τ) : ∃ r : Int32, (r = 0 ∨ r = 1) ∧ (r = 1 ↔ SetT T g) ∧ M_X9_isSettled τ = some r := by
  obtain ⟨hW, hO, hP, hn⟩ := q_bd h
  obtain ⟨k1, k2, k3⟩ := q_18 h
  have q := al2_loop (body := fun s : Int32 => M_X9_areAllAlike_L2 τ s) (n := tN T) (i0 := 1) (C := alC g) (by omega) (by omega) (fun i hi0 hi => by
    show M_X9_areAllAlike_L2 τ (nI i) = _
    unfold M_X9_areAllAlike_L2
    rw [k1, chk_pos ((ib_nI (by omega)).mpr k2), ix_nI (by omega), k3]
    by_cases h0 : tN T ≤ i
    · rw [if_pos ((nI_leI (by omega) (by omega)).mpr h0), if_pos h0]
    · rw [if_neg (fun z => h0 ((nI_leI (by omega) (by omega)).mp z)), if_neg h0, show M_X9_areAlike τ 0 (nI i) = _ from m_areAlike h (by omega), bnd1_some, nI_1]
      by_cases hc : alC g i = true
      · rw [if_pos hc, if_pos n01, if_pos hc]
        rfl
      · rw [if_neg hc, if_neg z00, if_neg hc])
  unfold M_X9_isSettled M_X9_areAllAlike
  rcases q with ⟨⟨i, i1, i2, i3⟩, e⟩ | ⟨a, e⟩
  · rw [show iter (fun s : Int32 => M_X9_areAllAlike_L2 τ s) FU 1 = some (.inr 0) from e, bnd1_some]
    refine ⟨0, Or.inl rfl, ⟨fun z => absurd z (by decide), fun z => ?_⟩, ?_⟩
    · have := z.1 i i1 i2
      rw [i3] at this
      exact absurd this (by decide)
    · show bnd1 (some 0) _ = _
      rw [bnd1_some, if_pos rfl]
  · rw [show iter (fun s : Int32 => M_X9_areAllAlike_L2 τ s) FU 1 = some (.inl ()) from e, bnd1_some]
    have e0 : gI τ 26 (ix (0 : Int32)) = nI (gW g) := h.2.2.2.1.1.1
    have e1 : gI τ 26 (ix (1 : Int32)) = nI (gO g) := h.2.2.2.1.1.2.1
    show ∃ r : Int32, _ ∧ _ ∧ bnd1 (some 1) _ = some r
    rw [bnd1_some, if_neg n10, chk_pos (by decide), chk_pos (by decide), e0, e1]
    by_cases hq : gO g = gW g
    · rw [if_neg (fun z => z (by rw [hq]))]
      exact ⟨1, Or.inr rfl, ⟨fun _ => ⟨a, hq⟩, fun _ => rfl⟩, rfl⟩
    · rw [if_pos (show nI (gO g) ≠ nI (gW g) from fun z => hq ((nI_eq (by omega) (by omega)).mp z))]
      exact ⟨0, Or.inl rfl, ⟨fun z => absurd z (by decide), fun z => absurd z.2 hq⟩, rfl⟩
theorem same_iff {g : Gs} {a b W : Nat} {x y : Int64} (hW : W ≤ 64) (hx : ∀ w, w < 64 → x.toBitVec.getLsbD w = decide (gA g a w = 1)) (hy : ∀ w, w < 64 → y.toBitVec.getLsbD w = decide (gA g b w = 1)) (hA : ∀ c w, gA g c w = 1 → w < W) : x = y ↔ lkN g a b W = 0 ∧ lkN g b a W = 0 := by
  rw [lkN_0, lkN_0]
  constructor
  · intro e
    have q : ∀ w, w < 64 → (decide (gA g a w = 1) = decide (gA g b w = 1)) := fun w hw => by rw [← hx w hw, ← hy w hw, e]
    refine ⟨fun w hw z => ?_, fun w hw z => ?_⟩
    · have := q w (by omega)
      simpa [z] using this
    · have := q w (by omega)
      simpa [z] using this
  · intro ⟨z1, z2⟩
    rw [← Int64.toBitVec_inj]
    apply BitVec.eq_of_getLsbD_eq
    intro w hw
    rw [hx w hw, hy w hw]
    congr 1
    exact propext ⟨fun z => z1 w (hA a w z) z, fun z => z2 w (hA b w z) z⟩
theorem c_settled {T : Td} {g : Gs} {σ : Wd} {n m : Nat} (h : Sea T g σ) (hI : Inv n m g) (hn : tN T ≤ 5) (hn1 : 1 ≤ tN T) : ∃ r : Int32, (r = 0 ∨ r = 1) ∧ (r = 1 ↔ SetT T g) ∧ M_X5_isSettled σ = some r := by
  obtain ⟨s2, s3, s4, s5, sc⟩ := h
  have hW := hI.1.1
  have hO := hI.1.2.1
  have hK : ∀ c, c < 5 → gK g c ≤ 60 := fun c hc => by have := hI.2.2.1 c hc; omega
  have q := al2_loop (body := fun s : Int32 => M_X5_isSettled_L2 σ s) (n := tN T) (i0 := 1) (C := alC g) (by omega) (by omega) (fun i hi0 hi => by
    show M_X5_isSettled_L2 σ (nI i) = _
    unfold M_X5_isSettled_L2
    rw [s2]
    by_cases h0 : tN T ≤ i
    · rw [if_pos ((nI_leI (by omega) (by omega)).mpr h0), if_pos h0]
    · have s0 := sc 0 (by omega)
      have si := sc i (by omega)
      have k0 := hK 0 (by omega)
      have ki := hK i (by omega)
      have sm := same_iff (a := i) (b := 0) (W := gW g) (by omega) si.1 s0.1 (fun c w hw => (hI.2.2.2.2.2.1 c w hw).1)
      have cI : ib (nI i) 5 := (ib_nI (by omega)).mpr (by omega)
      have c0 : ib (0 : Int32) 5 := by decide
      rw [if_neg (fun z => h0 ((nI_leI (by omega) (by omega)).mp z)), if_neg h0]
      simp only [chk_pos cI, chk_pos c0]
      rw [ix_nI (by omega), show ix (0 : Int32) = 0 from rfl, si.2, s0.2, nI_1]
      by_cases hx : gL σ 125 i = gL σ 125 0
      · obtain ⟨x1, x2⟩ := sm.mp hx
        rw [if_neg (fun z => z ((lg_cmp_eq _ _).mpr hx))]
        by_cases hk : gK g 0 = gK g i
        · rw [if_pos (by rw [hk]), if_pos (by unfold alC; simp [x1, x2, hk])]
          rfl
        · rw [if_neg (fun z => hk ((nI_eq (by omega) (by omega)).mp z).symm), if_neg (by unfold alC; simp [hk])]
      · rw [if_pos (fun z => hx ((lg_cmp_eq _ _).mp z)), if_neg (fun z => hx (sm.mpr (by unfold alC at z; simp at z; exact ⟨z.2.1, z.1⟩)))])
  unfold M_X5_isSettled
  rcases q with ⟨⟨i, i1, i2, i3⟩, e⟩ | ⟨a, e⟩
  · rw [show iter (fun s : Int32 => M_X5_isSettled_L2 σ s) FU 1 = some (.inr 0) from e, bnd1_some]
    refine ⟨0, Or.inl rfl, ⟨fun z => absurd z (by decide), fun z => ?_⟩, rfl⟩
    have := z.1 i i1 i2
    rw [i3] at this
    exact absurd this (by decide)
  · rw [show iter (fun s : Int32 => M_X5_isSettled_L2 σ s) FU 1 = some (.inl ()) from e, bnd1_some]
    show ∃ r : Int32, _ ∧ _ ∧ (if gI σ 124 5 ≠ gI σ 124 4 then some 0 else some 1) = some r
    rw [s4, s5]
    by_cases hq : gO g = gW g
    · rw [if_neg (fun z => z (by rw [hq]))]
      exact ⟨1, Or.inr rfl, ⟨fun _ => ⟨a, hq⟩, fun _ => rfl⟩, rfl⟩
    · rw [if_pos (show nI (gO g) ≠ nI (gW g) from fun z => hq ((nI_eq (by omega) (by omega)).mp z))]
      exact ⟨0, Or.inl rfl, ⟨fun z => absurd z (by decide), fun z => absurd z.2 hq⟩, rfl⟩
theorem two_settled {T : Td} {t l : Nat} {g : Gs} {σ σ' τ : Wd} (h : Qd T t l g σ τ) (hs : Sea T g σ') : ∃ r : Int32, (r = 0 ∨ r = 1) ∧ M_X5_isSettled σ' = some r ∧ M_X9_isSettled τ = some r := by
  obtain ⟨hW, hO, hP, hn⟩ := q_bd h
  obtain ⟨r, r1, r2, r3⟩ := m_settled h
  obtain ⟨s, s1, s2, s3⟩ := c_settled hs h.2.2.2.2.1 hn (by omega)
  have : s = r := by
    rcases r1 with rfl | rfl
    · rcases s1 with rfl | rfl
      · rfl
      · exact absurd (r2.mpr (s2.mp rfl)) (by decide)
    · exact s2.mpr (r2.mp rfl)
  subst this
  exact ⟨s, r1, s3, r3⟩
theorem st_36 : Sp_36 Rel := by
  intro σ τ h
  obtain ⟨T, t, l, g, τ1, hc, hK, hR, hQ, hT, _, hS⟩ := ask_start2 h
  obtain ⟨hW, hO, hP, hn⟩ := q_bd hQ
  obtain ⟨σa, a1, a2, a3⟩ := c_season hQ
  have run : ∀ (d i : Nat) (g2 : Gs) (σg σs τ2 : Wd) (k : Nat), i + d = 61 → d < k → Mid T g σ τ1 g2 σg τ2 → Sea T g2 σs → KC σ σs → gC g2 = gC g + i → ∃ x y v σ' τ', iter (fun s : Int32 × Wd => M_X8_soon_L13 s.1 s.2) k (nI i, σs) = some x ∧ iter (fun s : Int32 × Wd => M_X9_soon_L6 s.1 s.2) k (nI i, τ2) = some y ∧ sx (un1 fun sx_13 => (some ((-2 : Int32), sx_13))) (fun q => some q) x = some (v, σ') ∧ sx (un1 fun sx_6 => (some ((-2 : Int32), sx_6))) (fun q => some q) y = some (v, τ') ∧ KC σ σ' ∧ KM τ1 τ' := by
    intro d
    induction d with
    | zero =>
      intro i g2 σg σs τ2 k hi hk hm hs hkc hg
      obtain ⟨m, rfl⟩ : ∃ m, k = m + 1 := ⟨k - 1, by omega⟩
      have hlt : (60 : Int32) < nI i := (nI_ltI (a := 60) (by decide) (by omega)).mpr (by omega)
      refine ⟨.inl σs, .inl τ2, -2, σs, τ2, it_x ?_, it_x ?_, rfl, rfl, hkc, hm.2.1⟩
      · show M_X8_soon_L13 (nI i) σs = _
        unfold M_X8_soon_L13
        rw [if_pos hlt]
      · show M_X9_soon_L6 (nI i) τ2 = _
        unfold M_X9_soon_L6
        rw [if_pos hlt]
    | succ d ih =>
      intro i g2 σg σs τ2 k hi hk hm hs hkc hg
      obtain ⟨m, rfl⟩ : ∃ m, k = m + 1 := ⟨k - 1, by omega⟩
      have hlt : ¬ (60 : Int32) < nI i := fun z => by have := (nI_ltI (a := 60) (by decide) (by omega)).mp z; omega
      have hQ2 := hm.qd hQ.1
      obtain ⟨r, r0, r1, r2⟩ := two_settled hQ2 hs
      have hQs := hQ.kc hkc
      obtain ⟨ht, h4, hl, h18, hTI, hTC, hTM⟩ := gR_mid hQs.1
      rcases r0 with rfl | rfl
      · obtain ⟨g3, σg3, τ3, σs3, c1, c2, c3, c4, c5, c6⟩ := sea_step hm hQ.1 hS hs
        obtain ⟨x, y, v, σ', τ', e1, e2, e3, e4, e5, e6⟩ := ih (i + 1) g3 σg3 σs3 τ3 m (by omega) (by omega) c3 c4 (hkc.trans c5) (by omega)
        refine ⟨x, y, v, σ', τ', (it_s ?_).trans e1, (it_s ?_).trans e2, e3, e4, e5, e6⟩
        · show M_X8_soon_L13 (nI i) σs = _
          unfold M_X8_soon_L13
          rw [if_neg hlt, r1, bnd1_some, if_pos rfl, h4, chk_pos ht, hTC.1.2.2.1, show M_X1_chances σs = some (nI (gC g)) from c_chances hQs.2.1.1.2.2.2.2.1, bnd1_some, nI_add, ← hg, c2, bnd1_some, nI_1]
          rfl
        · show M_X9_soon_L6 (nI i) τ2 = _
          unfold M_X9_soon_L6
          rw [if_neg hlt, r2, bnd1_some, if_pos rfl, c1, bnd1_some, nI_1]
          rfl
      · refine ⟨.inr (nI i, σs), .inr (nI i, τ2), nI i, σs, τ2, it_x ?_, it_x ?_, rfl, rfl, hkc, hm.2.1⟩
        · show M_X8_soon_L13 (nI i) σs = _
          unfold M_X8_soon_L13
          rw [if_neg hlt, r1, bnd1_some, if_neg n10]
        · show M_X9_soon_L6 (nI i) τ2 = _
          unfold M_X9_soon_L6
          rw [if_neg hlt, r2, bnd1_some, if_neg n10]
  obtain ⟨x, y, v, σ', τ', e1, e2, e3, e4, e5, e6⟩ := run 61 0 g σ σa τ1 FU (by omega) (FU_big (by omega)) hQ.mid a3 a2 rfl
  refine ⟨v, σ', τ', ?_, ?_, Rel_KC e5 (Rel_KM e6 hR)⟩
  · unfold M_X8_soon
    rw [a1, bnd1_some, show ((0 : Int32), σa) = (nI 0, σa) from rfl, e1, bnd1_some]
    exact e3
  · unfold M_X9_soon
    rw [hc, bnd1_some, show ((0 : Int32), τ1) = (nI 0, τ1) from rfl, e2, bnd1_some]
    exact e4
theorem yr_one {σ τ : Wd} (h : Rel σ τ) {n k : Nat} (hn60 : n ≤ 60) (v2 v3 w2 w3 w4 : Int32) : ∃ (T : Td) (t : Nat) (r : Int32) (σa σ' τa τ' : Wd), famT t ∧ gR σ 0 4 = t ∧ gI σ t 2 = nI (tS T) ∧ tS T ≤ 9999 ∧ M_X5_begin σ = some σa ∧ iter (fun s : Int32 × Wd => M_X8_year_L62 (nI n) v2 v3 (nI (tS T + k)) s.1 s.2) FU ((0 : Int32), σa) = some σ' ∧ M_X5_isSettled σ' = some r ∧ M_X9_copiesNow τ = some τa ∧ iter (fun s : Int32 × Wd => M_X9_year_L48 (nI n) w2 w3 w4 s.1 s.2) FU ((0 : Int32), uI τa 0 43 (gI τa 0 43 + nI k)) = some τ' ∧ M_X9_isSettled τ' = some r ∧ (r = 0 ∨ r = 1) ∧ KC σ σ' ∧ KM τ τ' := by
  obtain ⟨T, t, l, g, τ1, hc, hK, hR, hQ, hT, _, hS⟩ := ask_start2 h
  obtain ⟨hW, hO, hP, hn⟩ := q_bd hQ
  obtain ⟨ht, h4, hl, h18, hTI, hTC, hTM⟩ := gR_mid hT
  obtain ⟨σa, a1, a2, a3⟩ := c_season hQ
  have hK1 : KM τ1 (uI τ1 0 43 (gI τ1 0 43 + nI k)) := KM.wO (by decide) KM.refl
  have hQ1 : Qd T t l g σ (uI τ1 0 43 (gI τ1 0 43 + nI k)) := hQ.km hK1 (rI_ne (by decide))
  have hS1 : gI (uI τ1 0 43 (gI τ1 0 43 + nI k)) 0 43 = nI (tS T + k) := by rw [gI_uI, if_pos ⟨rfl, rfl⟩, hS, nI_add]
  have run : ∀ (d i : Nat) (g2 : Gs) (σg σs τ2 : Wd) (q : Nat), i + d = n → d < q → Mid T g σ (uI τ1 0 43 (gI τ1 0 43 + nI k)) g2 σg τ2 → Sea T g2 σs → KC σ σs → gC g2 = gC g + i → ∃ g3 σg3 σ' τ', iter (fun s : Int32 × Wd => M_X8_year_L62 (nI n) v2 v3 (nI (tS T + k)) s.1 s.2) q (nI i, σs) = some σ' ∧ iter (fun s : Int32 × Wd => M_X9_year_L48 (nI n) w2 w3 w4 s.1 s.2) q (nI i, τ2) = some τ' ∧ KC σ σ' ∧ Sea T g3 σ' ∧ Mid T g σ (uI τ1 0 43 (gI τ1 0 43 + nI k)) g3 σg3 τ' := by
    intro d
    induction d with
    | zero =>
      intro i g2 σg σs τ2 q hi hk hm hs hkc hg
      obtain ⟨m, rfl⟩ : ∃ m, q = m + 1 := ⟨q - 1, by omega⟩
      have hle : nI n ≤ nI i := (nI_leI (by omega) (by omega)).mpr (by omega)
      refine ⟨g2, σg, σs, τ2, it_x ?_, it_x ?_, hkc, hs, hm⟩
      · show M_X8_year_L62 (nI n) v2 v3 (nI (tS T + k)) (nI i) σs = _
        unfold M_X8_year_L62
        rw [if_pos hle]
      · show M_X9_year_L48 (nI n) w2 w3 w4 (nI i) τ2 = _
        unfold M_X9_year_L48
        rw [if_pos hle]
    | succ d ih =>
      intro i g2 σg σs τ2 q hi hk hm hs hkc hg
      obtain ⟨m, rfl⟩ : ∃ m, q = m + 1 := ⟨q - 1, by omega⟩
      have hle : ¬ nI n ≤ nI i := fun z => by have := (nI_leI (by omega) (by omega)).mp z; omega
      have hQs := hQ.kc hkc
      obtain ⟨g3, σg3, τ3, σs3, c1, c2, c3, c4, c5, c6⟩ := sea_step hm hQ1.1 hS1 hs
      obtain ⟨g4, σg4, σ', τ', e1, e2, e3, e4, e5⟩ := ih (i + 1) g3 σg3 σs3 τ3 m (by omega) (by omega) c3 c4 (hkc.trans c5) (by omega)
      refine ⟨g4, σg4, σ', τ', (it_s ?_).trans e1, (it_s ?_).trans e2, e3, e4, e5⟩
      · show M_X8_year_L62 (nI n) v2 v3 (nI (tS T + k)) (nI i) σs = _
        unfold M_X8_year_L62
        rw [if_neg hle, show M_X1_chances σs = some (nI (gC g)) from c_chances hQs.2.1.1.2.2.2.2.1, bnd1_some, nI_add, ← hg, c2, bnd1_some, nI_1]
        rfl
      · show M_X9_year_L48 (nI n) w2 w3 w4 (nI i) τ2 = _
        unfold M_X9_year_L48
        rw [if_neg hle, c1, bnd1_some, nI_1]
        rfl
  obtain ⟨g3, σg3, σ', τ', e1, e2, e3, e4, e5⟩ := run n 0 g σ σa _ FU (by omega) (FU_big (by omega)) hQ1.mid a3 a2 rfl
  obtain ⟨r, r0, r1, r2⟩ := two_settled (e5.qd hQ1.1) e4
  exact ⟨T, t, r, σa, σ', τ1, τ', ht, h4, hTC.1.2.2.1, hTI.2.2.2.1, a1, e1, r1, hc, e2, r2, r0, e3, hK.trans (hK1.trans e5.2.1)⟩
theorem st_37 : Sp_37 Rel := by
  intro σ τ h a b
  unfold M_X8_year M_X9_year
  rcases bd_cases a (n := 61) (by decide) with ⟨n, hn, rfl⟩ | ha
  · rw [in60_t (by omega), bnd1_some, if_neg n10, if_neg (nI_n0 (by omega)), if_neg (show ¬ (60 : Int32) < nI n from fun z => by have := (nI_ltI (a := 60) (by decide) (by omega)).mp z; omega)]
    rcases bd_cases b (n := 21) (by decide) with ⟨s, hs, rfl⟩ | hb
    · by_cases hs0 : s = 0
      · subst hs0
        rw [if_pos (show nI 0 < 1 by decide), show M_X9_in (nI 0) 1 20 = some 0 from by unfold M_X9_in; rw [if_pos (show nI 0 < 1 by decide)], bnd1_some, if_neg z00]
        exact ⟨_, _, _, rfl, rfl, h⟩
      · have b1 : ¬ nI s < 1 := fun z => by have := (nI_ltI (b := 1) (by omega) (by decide)).mp z; omega
        have b2 : ¬ (20 : Int32) < nI s := fun z => by have := (nI_ltI (a := 20) (by decide) (by omega)).mp z; omega
        rw [if_neg b1, if_pos (show nI s ≤ 20 from (nI_leI (b := 20) (by omega) (by decide)).mpr (by omega)), show M_X9_in (nI s) 1 20 = some 1 from by unfold M_X9_in; rw [if_neg b1, if_neg b2], bnd1_some, if_pos n01]
        obtain ⟨T0, t0, _, _, _, _, _, f0, g0, i0, l0, _⟩ := yr_one h (n := 0) (k := 0) (by omega) 0 0 0 0 0
        have run : ∀ (d k : Nat) (v : Int32) (σ2 τ2 : Wd) (q : Nat), k + d = s → d < q → Rel σ2 τ2 → KC σ σ2 → ∃ v' σ' τ', iter (fun x : Int32 × Int32 × Wd => M_X8_year_L34 (nI n) (nI s) x.1 x.2.1 x.2.2) q (v, nI (tS T0 + k), σ2) = some (v', σ') ∧ iter (fun x : Int32 × Int32 × Wd => M_X9_year_L24 (nI n) (nI s) x.1 x.2.1 x.2.2) q (v, nI k, τ2) = some (v', τ') ∧ Rel σ' τ' := by
          intro d
          induction d with
          | zero =>
            intro k v σ2 τ2 q hk hq hR hkc
            obtain ⟨m, rfl⟩ : ∃ m, q = m + 1 := ⟨q - 1, by omega⟩
            have p0 : ∀ c, c < 35 → pC c := fun c hc => ⟨by omega, by omega, by omega⟩
            have e4 : gR σ2 0 4 = t0 := (congrFun (hkc 0 (p0 _ (by decide))).2.2 4).trans g0
            have e2 : gI σ2 t0 2 = nI (tS T0) := (congrFun (hkc t0 (p0 _ (by rcases f0 with e | e <;> omega))).1 2).trans i0
            refine ⟨v, σ2, τ2, it_x ?_, it_x ?_, hR⟩
            · show M_X8_year_L34 (nI n) (nI s) v (nI (tS T0 + k)) σ2 = _
              unfold M_X8_year_L34
              rw [e4, chk_pos f0, e2, nI_add, if_pos ((nI_leI (by omega) (by omega)).mpr (by omega))]
            · show M_X9_year_L24 (nI n) (nI s) v (nI k) τ2 = _
              unfold M_X9_year_L24
              rw [if_pos ((nI_leI (by omega) (by omega)).mpr (by omega))]
          | succ d ih =>
            intro k v σ2 τ2 q hk hq hR hkc
            obtain ⟨m, rfl⟩ : ∃ m, q = m + 1 := ⟨q - 1, by omega⟩
            have p0 : ∀ c, c < 35 → pC c := fun c hc => ⟨by omega, by omega, by omega⟩
            have e4 : gR σ2 0 4 = t0 := (congrFun (hkc 0 (p0 _ (by decide))).2.2 4).trans g0
            have e2 : gI σ2 t0 2 = nI (tS T0) := (congrFun (hkc t0 (p0 _ (by rcases f0 with e | e <;> omega))).1 2).trans i0
            obtain ⟨T, t, r, σa, σ3, τa, τ3, f1, f2, f3, f4, f5, f6, f7, f8, f9, f10, f11, f12, f13⟩ := yr_one hR (n := n) (k := k) (by omega) (nI s) v (nI s) v (nI k)
            obtain rfl : t = t0 := f2.symm.trans e4
            have eS : tS T = tS T0 := (nI_eq (by omega) (by omega)).mp (f3.symm.trans e2)
            rw [eS] at f6
            obtain ⟨v', σ', τ', z1, z2, z3⟩ := ih (k + 1) (if r = 0 then v else v + 1) σ3 τ3 m (by omega) (by omega) (Rel_KC f12 (Rel_KM f13 hR)) (hkc.trans f12)
            refine ⟨v', σ', τ', (it_s ?_).trans z1, (it_s ?_).trans z2, z3⟩
            · show M_X8_year_L34 (nI n) (nI s) v (nI (tS T0 + k)) σ2 = _
              unfold M_X8_year_L34
              rw [e4, chk_pos f0, e2, nI_add, if_neg (fun z => by have := (nI_leI (by omega) (by omega)).mp z; omega), f5, bnd1_some, f6, bnd1_some]
              show bnd1 (M_X5_isSettled σ3) _ = _
              rw [f7, bnd1_some, nI_1]
              by_cases hr : r = 0
              · rw [if_pos hr, if_pos hr]; rfl
              · rw [if_neg hr, if_neg hr]; rfl
            · show M_X9_year_L24 (nI n) (nI s) v (nI k) τ2 = _
              unfold M_X9_year_L24
              rw [if_neg (fun z => by have := (nI_leI (by omega) (by omega)).mp z; omega), f8, bnd1_some]
              simp only [lt_eq]
              rw [f9, bnd1_some]
              show bnd1 (M_X9_isSettled τ3) _ = _
              rw [f10, bnd1_some, nI_1]
              by_cases hr : r = 0
              · rw [if_pos hr, if_pos hr]
              · rw [if_neg hr, if_neg hr]
        obtain ⟨v', σ', τ', z1, z2, z3⟩ := run s 0 0 σ τ FU (by omega) (FU_big (by omega)) h KC.refl
        rw [g0, chk_pos f0, i0]
        simp only [lt_eq]
        rw [show nI (tS T0) = nI (tS T0 + 0) from rfl, z1, bnd1_some, show ((0 : Int32), (0 : Int32), τ) = ((0 : Int32), nI 0, τ) from rfl, z2, bnd1_some]
        exact ⟨v', σ', τ', rfl, rfl, z3⟩
    · have h20 : ∀ (x : Int32), ¬ b < 0 → ¬ b ≤ 20 ∧ (20 : Int32) < b := fun _ h0 => by
        have := nI_lt0 hb h0
        rw [Int32.le_iff_toInt_le, nI_toInt (by decide)] at this
        refine ⟨fun z => ?_, ?_⟩
        · rw [Int32.le_iff_toInt_le, show (20 : Int32) = nI 20 from rfl, nI_toInt (by decide)] at z; omega
        · rw [Int32.lt_iff_toInt_lt, show (20 : Int32) = nI 20 from rfl, nI_toInt (by decide)]; omega
      unfold M_X9_in
      by_cases h1 : b < 1
      · rw [if_pos h1, if_pos h1, bnd1_some, if_neg z00]
        exact ⟨_, _, _, rfl, rfl, h⟩
      · have h0 : ¬ b < 0 := fun z => h1 (by
          rw [Int32.lt_iff_toInt_lt] at z ⊢
          rw [show (1 : Int32) = nI 1 from rfl, nI_toInt (by decide)]
          rw [show (0 : Int32) = nI 0 from rfl, nI_toInt (by decide)] at z
          omega)
        obtain ⟨q1, q2⟩ := h20 0 h0
        rw [if_neg h1, if_neg q1, if_neg h1, if_pos q2, bnd1_some, if_neg z00]
        exact ⟨_, _, _, rfl, rfl, h⟩
  · rw [in60_f ha, bnd1_some, if_pos rfl]
    by_cases h1 : a < 0
    · rw [if_pos h1]
      exact ⟨_, _, _, rfl, rfl, h⟩
    · rw [if_neg h1, if_pos (show (60 : Int32) < a from by
        have := nI_lt0 ha h1
        rw [Int32.le_iff_toInt_le, nI_toInt (by decide)] at this
        rw [Int32.lt_iff_toInt_lt, show (60 : Int32) = nI 60 from rfl, nI_toInt (by decide)]
        omega)]
      exact ⟨_, _, _, rfl, rfl, h⟩
