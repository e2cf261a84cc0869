/-! read without a fault: what stands then -/
theorem st_2x {σ τ : Wd} (hR : Rel σ τ) (hr : ∀ g, g = 10 ∨ g = 19 → ∃ x, M_X3_readInto σ (gI σ 0 1) g = some (0, x)) : ∃ (T' : Td) (g : Nat) (x σ3 : Wd), (g = 10 ∨ g = 19) ∧ M_X3_readInto σ (gI σ 0 1) g = some (0, x) ∧ M_X8_read σ = some (0, σ3) ∧ TC T' g x ∧ TInv T' ∧ At T' (gB (tP T')) 0 (fun _ => gB 0) (fun _ => gB 0) (fun _ => 0) σ3 := by
  obtain ⟨T, t, l, tp, un, nx, G, hs, sl, hl, ⟨a1, a2, a3, a4⟩, a5, ⟨b1, b2, b3, b4, b5, b6, b7, b8⟩, hNow, hHist, hHeld, hKeys⟩ := Rel_iff.mp hR
  obtain ⟨u, hu⟩ := bytes_u (x := gI σ 1) (y := gI τ 1) a4
  obtain ⟨g, hg⟩ : ∃ g, g = 29 - t := ⟨_, rfl⟩
  rw [← hg] at b3
  have hg2 : g = 10 ∨ g = 19 := by omega
  obtain ⟨l', hl'⟩ : ∃ l', l' = 1 - l := ⟨_, rfl⟩
  have hl2 : l' < 2 := by omega
  obtain ⟨σs, n, c1, c2, c3, c4, c5, c6, c7, c8, c9, c10, c11, c12⟩ := c_start (σ := σ) (u := u) hg2 a1 (fun i hi => ⟨(hu i hi).1, (hu i hi).2.1⟩)
  obtain ⟨τc, m1, m2, m3, m4, m5, m6⟩ := m_start (τ := τ) (u := u) b4 a1 a3 b5 (fun i hi => ⟨(hu i hi).1, (hu i hi).2.2⟩) hKeys
  rw [← hl'] at m1 m2
  have hTop := top_start (n := n) hg2 hl2 c2 c3 c4 c5 c6 c7 ((c12 2 6).trans (if_pos ⟨rfl, rfl⟩)) (by rw [c8 3, c8 7, c8 9, c8 10, c9 0, c9 1, c9 2, c9 3, c9 4, c9 13]; exact rdC_v hg2) m2 (rdM_v (τ := τc) (l := l'))
  have hFU : 401 - 0 < FU := FU_big (by decide)
  obtain ⟨σ1, τ1, i1, i2, i3⟩ := tell_loop a1 (v := nI tp) 401 0 0 FU FU 0 0 0 0 _ _ σs (rdM τc l') (by omega) (by omega) hFU hFU hTop
  have hE := read_end a1 i3
  have eC : M_X3_readInto σ (nI tp) g = M_X3_readInto_J123 g σ1 (nI tp) := by
    rw [c1, show iter (fun s : Int32 × Wd => M_X3_readInto_L49 g (nI tp) s.1 s.2) FU ((0 : Int32), σs) = some σ1 from i1, bnd1_some]
    rfl
  have eM : M_X9_read τ = M_X9_read_J122 τ1 := by
    rw [m1, i2, bnd1_some]
    rfl
  rw [← eC, ← eM] at hE
  -- what is kept
  have kC : ∀ σ', FRc g σs σ' → (∀ c, c ≠ 2 → c ≠ 4 → c ≠ 5 → c ≠ 6 → c ≠ 7 → c ≠ 8 → ¬ (g ≤ c ∧ c ≤ g + 8) → σ'.1 c = σ.1 c) ∧ (∀ c, c ≠ 3 → c ≠ 9 → σ'.2.1 c = σ.2.1 c) ∧ ∀ c k, ¬ (c = 2 ∧ k = 6) → gR σ' c k = gR σ c k := fun σ' hf => by
    refine ⟨fun c h2 h4 h5 h6 h7 h8 h9 => (hf.1 c h2 h4 h5 h6 h9).trans (c10 c h2 h6 h7 h8 (by omega)), fun c h3 h9 => (hf.2.1 c h3).trans (c11 c h9), fun c k h => ?_⟩
    show σ'.2.2 c k = _
    rw [hf.2.2]
    exact (c12 c k).trans (if_neg h)
  have kM : ∀ τ', FRm l' (rdM τc l') τ' → (∀ c k, c ≠ 0 → c ≠ 2 → c ≠ 3 → c ≠ 4 → c ≠ 5 → ¬ okm l' c k → gI τ' c k = gI τ c k) ∧ (∀ k, k = 17 ∨ k = 18 ∨ k = 51 → gI τ' 0 k = gI τ 0 k) ∧ gI τ' 0 2 = 0 ∧ ∀ c, c ≠ 6 → c ≠ 8 → τ'.2.1 c = τ.2.1 c := fun τ' hf => by
    refine ⟨fun c k h0 h2 h3 h4 h5 h6 => ?_, fun k hk => ?_, ?_, fun c h6 h8 => ?_⟩
    · rw [hf.1 c k h6, rdM_o (fun z => absurd z h0) (fun z => h6 (by unfold okm; omega))]
      exact congrFun (m3 c h0 h2 h3 h4 h5) k
    · rw [hf.1 0 k (by unfold okm; omega), rdM_o (fun _ => by omega) (by omega)]
      exact m4 k (by omega) (by omega) (by omega)
    · rw [hf.1 0 2 (by unfold okm; omega), rdM_o (fun _ => by omega) (by omega)]
      exact m5
    · exact (hf.2.1 c h8).trans (m6 c h6)
  unfold M_X8_read
  rw [b3, chk_pos hg2, a2]
  rcases hE with ⟨r, σ', τx, v, r0, x1, y1, p8, fc, fm⟩ | ⟨σ', τx, x1, y1, p8, z13, z15, z19, fc, fm, T', TI', TC', TM'⟩
  · -- a fault
    obtain ⟨x, hx⟩ := hr g hg2
    rw [a2, x1] at hx
    exact absurd (congrArg Prod.fst (Option.some.inj hx)) r0
  · -- a text
    obtain ⟨kc, kl, kr⟩ := kC σ' fc
    obtain ⟨km, k0, k2, kml⟩ := kM τx fm
    obtain ⟨n1, n2, n3, n4, n5, n6, n7⟩ := TI'
    obtain ⟨⟨f1, f2, f3, f4, f5⟩, fb, fd⟩ := TC'
    rw [x1, bnd2_some]
    unfold M_X3_placeOfFault M_X8_beginAnew M_X2_forget
    simp only [lt_eq]
    rw [bnd1_some, if_neg z00, p8]
    have r4 : gR (uI (uI σ' 0 2 (-1)) 0 1 0) 0 4 = t := (kr 0 4 (by omega)).trans b2
    have r5 : gR (uI (uI σ' 0 2 (-1)) 0 1 0) 0 5 = g := (kr 0 5 (by omega)).trans b3
    rw [r4, r5, chk_pos b1, chk_pos hg2]
    have q4 : gR (uR (uR (uI (uI σ' 0 2 (-1)) 0 1 0) 0 4 g) 0 5 t) 0 4 = g := by rw [gR_uR, if_neg (by omega), gR_uR, if_pos ⟨rfl, rfl⟩]
    have q5 : gR (uR (uR (uI (uI σ' 0 2 (-1)) 0 1 0) 0 4 g) 0 5 t) 0 5 = t := by rw [gR_uR, if_pos ⟨rfl, rfl⟩]
    have qI : ∀ c k, c ≠ 0 → gI (uR (uR (uI (uI σ' 0 2 (-1)) 0 1 0) 0 4 g) 0 5 t) c k = gI σ' c k := fun c k h0 => by
      show gI (uI (uI σ' 0 2 (-1)) 0 1 0) c k = _
      rw [gI_uI, if_neg (fun z => h0 z.1), gI_uI, if_neg (fun z => h0 z.1)]
    have qJ : gI (uR (uR (uI (uI σ' 0 2 (-1)) 0 1 0) 0 4 g) 0 5 t) 0 1 = 0 ∧ gI (uR (uR (uI (uI σ' 0 2 (-1)) 0 1 0) 0 4 g) 0 5 t) 0 2 = -1 := by
      refine ⟨?_, ?_⟩
      · show gI (uI (uI σ' 0 2 (-1)) 0 1 0) 0 1 = 0
        exact gI_s
      · show gI (uI (uI σ' 0 2 (-1)) 0 1 0) 0 2 = -1
        rw [gI_uI, if_neg (by omega), gI_s]
    have qL : (uR (uR (uI (uI σ' 0 2 (-1)) 0 1 0) 0 4 g) 0 5 t).2.1 = σ'.2.1 := rfl
    generalize uR (uR (uI (uI σ' 0 2 (-1)) 0 1 0) 0 4 g) 0 5 t = s55 at *
    rw [q4, chk_pos hg2, chk_pos hg2, qI g 0 (by omega), qI g 1 (by omega), f1, f2]
    obtain ⟨σb, d1, d2, d3, d4, d5, d6, d7⟩ := c_begin2 (σ := s55) (nI (tN T')) (nI (tP T'))
    rw [lN_I (by omega)] at d5 d6
    rw [d1, bnd1_some, bnd1_some, c_flags, bnd1_some]
    have pI : ∀ c k, c ≠ 65 → c ≠ 66 → gI (fl3 (uI σb 66 2 0) 65) c k = gI s55 c k := fun c k h5 h6 => by
      unfold fl3
      rw [gI_uI, if_neg (fun z => h5 z.1), gI_uI, if_neg (fun z => h5 z.1), gI_uI, if_neg (fun z => h5 z.1), gI_uI, if_neg (fun z => h6 z.1)]
      exact congrFun (congrFun d2 c) k
    -- the model
    have y13 : gI (uI τx 0 17 (-1)) 0 13 = 0 := by rw [gI_uI, if_neg (by omega)]; exact z13
    have y15 : gI (uI τx 0 17 (-1)) 0 15 = 0 := by rw [gI_uI, if_neg (by omega)]; exact z15
    have y19 : gI (uI τx 0 17 (-1)) 0 19 = nI l' := by rw [gI_uI, if_neg (by omega)]; exact z19
    obtain ⟨τb, e1, e2, e3, e4, e5, e6⟩ := m_begins2 (τ := uI (uI τx 0 17 (-1)) 0 18 (nI l')) hl2 gI_s
    have eM2 : M_X9_read τ = some ((0 : Int32), fl3 (uI (rI τb 25 (va_cpy (τb.1 26) (τb.1 25) 0 0 770)) 0 51 0) 35) := by
      rw [y1]
      unfold M_X9_read_J190
      simp only [lt_eq]
      rw [y13, if_pos (show (0 : Int32) ≤ 0 by decide), y15, if_pos (show (0 : Int32) ≤ 0 by decide), y19, e1, bnd1_some, m_keepsRow, bnd1_some, m_flags, bnd1_some]
      rfl
    have mI : ∀ c k, c ≠ 0 → c ≠ 25 → c ≠ 26 → c ≠ 35 → gI (fl3 (uI (rI τb 25 (va_cpy (τb.1 26) (τb.1 25) 0 0 770)) 0 51 0) 35) c k = gI τx c k := fun c k h0 h5 h6 h7 => by
      unfold fl3
      rw [gI_uI, if_neg (fun z => h7 z.1), gI_uI, if_neg (fun z => h7 z.1), gI_uI, if_neg (fun z => h7 z.1), gI_uI, if_neg (fun z => h0 z.1), gI_rI, if_neg h5]
      rw [show gI τb c k = gI (uI (uI τx 0 17 (-1)) 0 18 (nI l')) c k from congrFun (e2 c h6 h0) k, gI_uI, if_neg (fun z => h0 z.1), gI_uI, if_neg (fun z => h0 z.1)]
    have m0 : ∀ k, k ≠ 43 → k ≠ 51 → gI (fl3 (uI (rI τb 25 (va_cpy (τb.1 26) (τb.1 25) 0 0 770)) 0 51 0) 35) 0 k = gI (uI (uI τx 0 17 (-1)) 0 18 (nI l')) 0 k := fun k h1 h2 => by
      unfold fl3
      rw [gI_uI, if_neg (by omega), gI_uI, if_neg (by omega), gI_uI, if_neg (by omega), gI_uI, if_neg (by omega), gI_rI, if_neg (by decide)]
      exact e3 k h1
    refine ⟨T', g, σ', _, hg2, x1, rfl, ⟨⟨f1, f2, f3, f4, f5⟩, fb, fd⟩, ⟨n1, n2, n3, n4, n5, n6, n7⟩, fl3 (uI (rI τb 25 (va_cpy (τb.1 26) (τb.1 25) 0 0 770)) 0 51 0) 35, g, l', 0, nx, ⟨Nat.zero_le _, ?_, ?_, fun i hi => absurd hi (Nat.not_lt_zero i)⟩, ?_, ⟨hg2, ?_, ?_, hl2, ?_, ⟨n1, n2, n3, n4, n5, n6, n7⟩, ?_, ?_⟩, ⟨?_, CA_B, ?_, Inv_B n1 n2 n3⟩, ⟨Nat.zero_le _, hHist.2.1, ?_, ?_, ?_, fun i hi => absurd hi (Nat.not_lt_zero i)⟩, fun k hk => ⟨Nat.zero_le _, ?_, ?_, fun z => absurd (show (0 : Nat) = 1 from z) (by decide)⟩, RKeys_eq ?_ hKeys⟩
    · exact (pI 0 1 (by decide) (by decide)).trans qJ.1
    · rw [m0 2 (by decide) (by decide), gI_uI, if_neg (by omega), gI_uI, if_neg (by omega)]; exact k2
    · rw [m0 17 (by decide) (by decide), gI_uI, if_neg (by omega), gI_s]
      exact (pI 0 2 (by decide) (by decide)).trans qJ.2
    · show σb.2.2 0 4 = g
      rw [d3]; exact q4
    · show σb.2.2 0 5 = 29 - g
      rw [d3]
      exact q5.trans (by omega)
    · rw [m0 18 (by decide) (by decide)]; exact gI_s
    · refine TC_eq (fun j hj => ?_) ⟨⟨f1, f2, f3, f4, f5⟩, fb, fd⟩
      funext k
      exact (pI (g + j) k (by omega) (by omega)).trans (qI (g + j) k (by omega))
    · refine TM_eq (fun c h1 h2 => ?_) TM'
      funext k
      exact mI c k (by omega) (by omega) (by omega) (by omega)
    · refine CR_B d5 d6 (fun j hj h2 => d7 j hj h2)
    · have e25 : (fl3 (uI (rI τb 25 (va_cpy (τb.1 26) (τb.1 25) 0 0 770)) 0 51 0) 35).1 25 = va_cpy (τb.1 26) (τb.1 25) 0 0 770 := by
        funext k
        show gI _ 25 k = _
        unfold fl3
        rw [gI_uI, if_neg (by omega), gI_uI, if_neg (by omega), gI_uI, if_neg (by omega), gI_uI, if_neg (by omega), gI_rI, if_pos rfl]
      rw [e25]
      have e11 : gI (uI (uI τx 0 17 (-1)) 0 18 (nI l')) 11 l' = nI (tP T') := by
        rw [gI_uI, if_neg (by omega), gI_uI, if_neg (by omega)]
        exact TM'.1.2.1
      refine MR_B ?_ (fun k hk hk2 => ?_)
      · rw [cpy_at (by decide)]
        exact e5.trans e11
      · rw [cpy_at hk]
        exact e6 k hk hk2
    · unfold fl3
      rw [gI_uI, if_neg (by omega), gI_uI, if_neg (by omega), gI_uI, if_neg (by omega), gI_s]
      rfl
    · unfold fl3
      rw [gI_uI, if_neg (by omega), gI_uI, if_neg (by omega), gI_uI, if_neg (by omega), gI_uI, if_neg (by omega), show gI σb 66 1 = gI s55 66 1 from congrFun (congrFun d2 66) 1, qI 66 1 (by decide), show gI σ' 66 1 = gI σ 66 1 from congrFun (kc 66 (by decide) (by decide) (by decide) (by decide) (by decide) (by decide) (by omega)) 1]
      exact hHist.2.2.2.1
    · unfold fl3
      rw [gI_uI, if_neg (by omega), gI_uI, if_neg (by omega), gI_uI, if_neg (by omega), gI_s]
      rfl
    · rcases (show k = 0 ∨ k = 1 ∨ k = 2 by omega) with rfl | rfl | rfl
      · unfold fl3; simp [gI_uI]; rfl
      · unfold fl3; simp [gI_uI]; rfl
      · unfold fl3; simp [gI_uI]; rfl
    · rcases (show k = 0 ∨ k = 1 ∨ k = 2 by omega) with rfl | rfl | rfl
      · unfold fl3; simp [gI_uI]; rfl
      · unfold fl3; simp [gI_uI]; rfl
      · unfold fl3; simp [gI_uI]; rfl
    · show τb.2.1 7 = _
      rw [e4]
      exact kml 7 (by decide) (by decide)
