/-! cell, behind, outcome, setter, clash, differ -/
theorem kn_ln {n m c : Nat} {g : Gs} (_ : Inv n m g) : gK g c ≤ ln g c := (lg_inv (R := lgR g (hsP g c) (gK g c)) (g := g) (k := gK g c) (gW g)).1
theorem st_12 : Sp_12 Rel := by
  intro σ τ h a b c0
  obtain ⟨T, t, l, g, τ1, hc, hK, hR, hQ, hT⟩ := ask_start h
  obtain ⟨hW, hO, hP, hn⟩ := q_bd hQ
  obtain ⟨ht, h4, hl, h18, hTI, hTC, hTM⟩ := gR_mid hT
  have hC6 : tC T ≤ 6 := hTI.2.2.2.2.1
  have hI := hQ.2.2.2.2.1
  unfold M_X8_cell M_X9_cell
  rcases q_isCopy hT a with ⟨c, hc5, rfl, e1, e2⟩ | ⟨e1, e2⟩
  · rw [e1, bnd1_some, if_neg n10, e2, bnd1_some, if_neg n10]
    rcases q_isCell hT b with ⟨k, hk, rfl, f1, f2⟩ | ⟨f1, f2⟩
    · obtain ⟨σ', p1, p2, p3⟩ := c_play hQ (q := 108) (c := c) (by decide) (by omega)
      have hN : ln g c ≤ gW g := (ln_facts hI (show c < 5 by omega)).2.2.1
      have hKC := p2.kc (by decide)
      have hkn := kn_ln (c := c) hI
      rw [f1, bnd1_some, if_pos n01, h4, chk_pos ht, p1, bnd1_some, f2, bnd1_some, if_pos n01, hc, bnd1_some]
      rcases bI_cases c0 with e | e
      · obtain ⟨τa, τ', a1, a2, a3, a4, a5, a6, a7, _⟩ := m_play hQ (c := c) (m := ln g c) (by omega) (Nat.le_refl _)
        rw [e, if_pos rfl, c_last p3 (by omega) hk hC6, bnd1_some, a1, bnd1_some, if_pos rfl, a2]
        unfold M_X9_cell_J45
        rw [a4, bnd1_some, chk_pos ((ib_nI (by omega)).mpr (by omega)), ix_nI (by omega), a7 k hk]
        exact ⟨_, _, _, rfl, rfl, Rel_KC hKC (Rel_KM a6.1 hR)⟩
      · obtain ⟨τa, τ', a1, a2, a3, a4, a5, a6, a7, _⟩ := m_play hQ (c := c) (m := gK g c) (by omega) hkn
        rw [e, if_neg n10, (q_known (hQ.kc hKC) (show c < 5 by omega)).1, bnd1_some, c_behind p3 (by omega) hkn hk hC6, bnd1_some, a1, bnd1_some, if_neg n10, (q_known (hQ.kq a3) (show c < 5 by omega)).2, bnd1_some]
        unfold M_X9_cell_J45
        rw [a4, bnd1_some, chk_pos ((ib_nI (by omega)).mpr (by omega)), ix_nI (by omega), a7 k hk]
        exact ⟨_, _, _, rfl, rfl, Rel_KC hKC (Rel_KM a6.1 hR)⟩
    · rw [f1, bnd1_some, if_neg z00, f2, bnd1_some, if_neg z00]
      exact ⟨_, _, _, rfl, rfl, h⟩
  · rw [e1, bnd1_some, if_pos rfl, e2, bnd1_some, if_pos rfl]
    exact ⟨_, _, _, rfl, rfl, h⟩
theorem st_27 : Sp_27 Rel := by
  intro σ τ h a b v
  obtain ⟨T, t, l, g, τ1, hc, hK, hR, hQ, hT⟩ := ask_start h
  obtain ⟨hW, hO, hP, hn⟩ := q_bd hQ
  obtain ⟨ht, h4, hl, h18, hTI, hTC, hTM⟩ := gR_mid hT
  have hC6 : tC T ≤ 6 := hTI.2.2.2.2.1
  have hI := hQ.2.2.2.2.1
  unfold M_X8_behind M_X9_behind
  rcases q_isCopy hT a with ⟨c, hc5, rfl, e1, e2⟩ | ⟨e1, e2⟩
  · rw [e1, bnd1_some, if_neg n10, e2, bnd1_some, if_neg n10]
    rcases q_isCell hT b with ⟨k, hk, rfl, f1, f2⟩ | ⟨f1, f2⟩
    · rw [f1, bnd1_some, if_neg n10, f2, bnd1_some, if_neg n10]
      by_cases h0 : 0 ≤ v
      · obtain ⟨σ', p1, p2, p3⟩ := c_play hQ (q := 108) (c := c) (by decide) (by omega)
        have hN : ln g c ≤ gW g := (ln_facts hI (show c < 5 by omega)).2.2.1
        have hKC := p2.kc (by decide)
        rw [if_pos h0, if_pos h0, h4, chk_pos ht, p1, bnd1_some, hc, bnd1_some]
        rcases bd_cases v (n := ln g c) (by omega) with ⟨i, hi, rfl⟩ | hv
        · obtain ⟨τa, τ', a1, a2, a3, a4, a5, a6, a7, _⟩ := m_play hQ (c := c) (m := i) (by omega) (by omega)
          rw [c_behind p3 (by omega) (by omega) hk hC6, bnd1_some, a1, bnd1_some, a2, if_neg (fun z => by have := (nI_leI (by omega) (by omega)).mp z; omega)]
          unfold M_X9_behind_J48
          rw [a4, bnd1_some, chk_pos ((ib_nI (by omega)).mpr (by omega)), ix_nI (by omega), a7 k hk]
          exact ⟨_, _, _, rfl, rfl, Rel_KC hKC (Rel_KM a6.1 hR)⟩
        · have hv2 := nI_lt0 hv (i0lt h0)
          obtain ⟨τa, τ', a1, a2, a3, a4, a5, a6, a7, _⟩ := m_play hQ (c := c) (m := ln g c) (by omega) (Nat.le_refl _)
          have e8 : M_X4_cellBehind σ' 108 (nI k) v = some (envS T g (lf g c) (ln g c) k) := by
            by_cases h1 : nI (ln g c) < v
            · exact c_behind2 p3 (by omega) h1 hk hC6
            · have : v = nI (ln g c) := by
                rw [Int32.le_iff_toInt_le] at hv2
                rw [Int32.lt_iff_toInt_lt] at h1
                exact Int32.toInt_inj.mp (by omega)
              rw [this]
              exact c_behind p3 (by omega) (Nat.le_refl _) hk hC6
          rw [e8, bnd1_some, a1, bnd1_some, a2, if_pos hv2]
          unfold M_X9_behind_J48
          rw [a4, bnd1_some, chk_pos ((ib_nI (by omega)).mpr (by omega)), ix_nI (by omega), a7 k hk]
          exact ⟨_, _, _, rfl, rfl, Rel_KC hKC (Rel_KM a6.1 hR)⟩
      · rw [if_neg h0, if_neg h0]
        exact ⟨_, _, _, rfl, rfl, h⟩
    · rw [f1, bnd1_some, if_pos rfl, f2, bnd1_some, if_pos rfl]
      exact ⟨_, _, _, rfl, rfl, h⟩
  · rw [e1, bnd1_some, if_pos rfl, e2, bnd1_some, if_pos rfl]
    exact ⟨_, _, _, rfl, rfl, h⟩
theorem st_14 : Sp_14 Rel := by
  intro σ τ h a b
  obtain ⟨T, t, l, g, τ1, hc, hK, hR, hQ, hT, hM, _⟩ := ask_start2 h
  obtain ⟨hW, hO, hP, hn⟩ := q_bd hQ
  obtain ⟨ht, h4, hl, h18, hTI, hTC, hTM⟩ := gR_mid hT
  have hI := hQ.2.2.2.2.1
  unfold M_X8_outcome M_X9_outcome
  rcases q_isCopy hT a with ⟨c, hc5, rfl, e1, e2⟩ | ⟨e1, e2⟩
  · rw [e1, bnd1_some, if_neg n10, e2, bnd1_some, if_neg n10]
    rcases q_isWrite2 hQ hM b with ⟨w, hw, rfl, f1, f2⟩ | ⟨f1, f2⟩
    · have lx := ln_facts hI (show c < 5 by omega)
      have hN : ln g c ≤ gW g := lx.2.2.1
      obtain ⟨τ', m1, m2, m3, _⟩ := m_doesAll hQ (show c < 5 by omega)
      have mw := m_where (w := w) (f := lf g c) m3.1 (by omega) (by omega) (fun i hi => ⟨m3.2.1 i hi, by have := lx.1 i hi; omega⟩)
      rw [f1, bnd1_some, if_pos n01, f2, bnd1_some, if_pos n01, q_has hQ (by omega) (by omega), bnd1_some, hc, bnd1_some, m1, bnd1_some]
      by_cases hA : gA g c w = 1
      · obtain ⟨i0, hi0, hie0⟩ := lx.2.2.2.2 w hw hA
        obtain ⟨i, hi, hie, mw⟩ := mw.resolve_right (fun z => z.1 i0 hi0 hie0)
        obtain ⟨σ', p1, p2, p3⟩ := c_play hQ (q := 108) (c := c) (by decide) (by omega)
        have cw := c_place (w := w) (f := lf g c) p3.1 (by omega) (by omega) (fun i hi => ⟨p3.2.1 i hi, by have := lx.1 i hi; omega⟩)
        obtain ⟨i', hi', hie', cw⟩ := cw.resolve_right (fun z => z.1 i0 hi0 hie0)
        obtain rfl : i' = i := lg_u hI (show c < 5 by omega) hi' hi (hie'.trans hie.symm)
        rw [if_pos hA, if_pos n01, h4, chk_pos ht, p1, bnd1_some, cw, bnd1_some, mw, bnd1_some, if_pos (i0le (by omega)), chk_pos ((ib_nI (by omega)).mpr (by omega)), ix_nI (by omega), (m3.2.2.1 i' hi).1]
        unfold M_X4_outcomeAt
        rw [if_neg (nI_n0 (by omega)), p3.1, if_neg (fun z => by have := (nI_leI (by omega) (by omega)).mp z; omega), chk_pos ((ib_nI (by omega)).mpr (by omega)), ix_nI (by omega), (p3.2.2.1 i' hi).1, bnd1_some]
        exact ⟨_, _, _, rfl, rfl, Rel_KC (p2.kc (by decide)) (Rel_KM m2.1 hR)⟩
      · obtain ⟨_, mw⟩ := mw.resolve_left (fun ⟨j, hj, hje, _⟩ => hA (by rw [← hje]; exact lx.2.2.2.1 j hj))
        rw [if_neg hA, if_neg z00, mw, bnd1_some, if_neg (show ¬ (0 : Int32) ≤ -1 by decide)]
        exact ⟨_, _, _, rfl, rfl, Rel_KM m2.1 hR⟩
    · rw [f1, bnd1_some, if_neg z00, f2, bnd1_some, if_neg z00]
      exact ⟨_, _, _, rfl, rfl, h⟩
  · rw [e1, bnd1_some, if_pos rfl, e2, bnd1_some, if_pos rfl]
    exact ⟨_, _, _, rfl, rfl, h⟩
theorem ch_eq {c k : Nat} (hc : c ≤ 6) (hk : k < 6) : chI c = nI k ↔ c = k + 1 := by
  unfold chI
  by_cases h : c = 0
  · rw [if_pos h]
    exact ⟨fun z => absurd (z ▸ (by decide : (-1 : Int32) < 0)) (nI_n0 (by omega)), fun z => by omega⟩
  · rw [if_neg h, nI_eq (by omega) (by omega)]
    omega
/-- the last of the first k that changed a cell -/
def stS (T : Td) (g : Gs) (f : Nat → Nat) (cell : Nat) : Nat → Int32
  | 0 => -2
  | k + 1 => if chS T g f k = cell + 1 then nI (f k) else stS T g f cell k
theorem st_31 : Sp_31 Rel := by
  intro σ τ h a b
  obtain ⟨T, t, l, g, τ1, hc, hK, hR, hQ, hT⟩ := ask_start h
  obtain ⟨hW, hO, hP, hn⟩ := q_bd hQ
  obtain ⟨ht, h4, hl, h18, hTI, hTC, hTM⟩ := gR_mid hT
  have hC6 : tC T ≤ 6 := hTI.2.2.2.2.1
  have hI := hQ.2.2.2.2.1
  unfold M_X8_setter M_X9_setter
  rcases q_isCopy hT a with ⟨c, hc5, rfl, e1, e2⟩ | ⟨e1, e2⟩
  · rw [e1, bnd1_some, if_neg n10, e2, bnd1_some, if_neg n10]
    rcases q_isCell hT b with ⟨k, hk, rfl, f1, f2⟩ | ⟨f1, f2⟩
    · obtain ⟨σ', p1, p2, p3⟩ := c_play hQ (q := 108) (c := c) (by decide) (by omega)
      obtain ⟨τ', m1, m2, m3, _⟩ := m_doesAll hQ (show c < 5 by omega)
      have lx := ln_facts hI (show c < 5 by omega)
      have hN : ln g c ≤ gW g := lx.2.2.1
      have hch : ∀ i, i < ln g c → chS T g (lf g c) i ≤ 6 := fun i hi => Nat.le_trans (do_out hTI (hI.2.2.2.2.2.2.2.2.2.1 _ (lx.1 i hi)).1).2 hC6
      have e8 : M_X4_setterOf σ' 108 (nI k) = some (stS T g (lf g c) k (ln g c)) := by
        unfold M_X4_setterOf
        rw [p3.1, lt_eq]
        obtain ⟨x, h1, h2⟩ := ow_iter (body := fun s : Int32 => M_X4_setterOf_L7 108 σ' (nI k) s) (Q := fun x => sx (un0 (some (-2 : Int32))) (fun q => some q) x = some (stS T g (lf g c) k (ln g c))) (fun m s => m ≤ ln g c ∧ s = nI m - 1 ∧ stS T g (lf g c) k (ln g c) = stS T g (lf g c) k m) (fun m s ⟨hm, hs, he⟩ => by
          subst hs
          show ow (M_X4_setterOf_L7 108 σ' (nI k) (nI m - 1)) _
          unfold M_X4_setterOf_L7
          by_cases h0 : m = 0
          · subst h0
            rw [if_pos (by decide)]
            refine ow_some.mpr ?_
            rw [he]
            rfl
          · obtain ⟨w, rfl⟩ : ∃ w, m = w + 1 := ⟨m - 1, by omega⟩
            have es : stS T g (lf g c) k (w + 1) = if chS T g (lf g c) w = k + 1 then nI (lf g c w) else stS T g (lf g c) k w := rfl
            have ce := ch_eq (hch w (by omega)) (show k < 6 by omega)
            rw [nI_pred1 (by omega), Nat.add_sub_cancel, if_neg (nI_n0 (by omega)), chk_pos ((ib_nI (by omega)).mpr (by omega)), ix_nI (by omega), show gI σ' (108 + 5) w = chI (chS T g (lf g c) w) from (p3.2.2.1 w (by omega)).2]
            by_cases hcw : chS T g (lf g c) w = k + 1
            · rw [if_neg (fun z => z (ce.mpr hcw)), chk_pos ((ib_nI (by omega)).mpr (by omega)), show gI σ' (108 + 3) w = nI (lf g c w) from p3.2.1 w (by omega)]
              refine ow_some.mpr ?_
              rw [he, es, if_pos hcw]
              rfl
            · rw [if_pos (fun z => hcw (ce.mp z)), lt_eq]
              exact ow_some.mpr ⟨w, by omega, by omega, by rw [Int32.sub_eq_add_neg], by rw [he, es, if_neg hcw]⟩) FU (ln g c) (nI (ln g c) - 1) (FU_big (by omega)) ⟨Nat.le_refl _, rfl, rfl⟩
        rw [show iter (fun s : Int32 => M_X4_setterOf_L7 108 σ' (nI k) s) FU (nI (ln g c) - 1) = some x from h1, bnd1_some]
        exact h2
      have e9 : iter (fun s : Int32 × Int32 => M_X9_setter_L33 τ' (nI k) s.1 s.2) FU ((-2 : Int32), (0 : Int32)) = some (stS T g (lf g c) k (ln g c)) := by
        obtain ⟨x, h1, h2⟩ := ow_for (body := fun s : Int32 × Int32 => M_X9_setter_L33 τ' (nI k) s.1 s.2) (Q := fun x => x = stS T g (lf g c) k (ln g c)) (fun i s => s = (stS T g (lf g c) k i, nI i)) (ln g c) (FU_big (by omega)) (fun i s hi hs => by
          subst hs
          show ow (M_X9_setter_L33 τ' (nI k) (stS T g (lf g c) k i) (nI i)) _
          have es : stS T g (lf g c) k (i + 1) = if chS T g (lf g c) i = k + 1 then nI (lf g c i) else stS T g (lf g c) k i := rfl
          have ce := ch_eq (hch i hi) (show k < 6 by omega)
          unfold M_X9_setter_L33
          rw [m3.1, if_neg (fun z => by have := (nI_leI (by omega) (by omega)).mp z; omega), chk_pos ((ib_nI (by omega)).mpr (by omega)), ix_nI (by omega), (m3.2.2.1 i hi).2, nI_1, m3.2.1 i hi]
          by_cases hcw : chS T g (lf g c) i = k + 1
          · rw [if_neg (fun z => z (ce.mpr hcw)), chk_pos ((ib_nI (by omega)).mpr (by omega)), lt_eq, lt_eq]
            refine ow_some.mpr ?_
            show _ = _
            rw [es, if_pos hcw]
          · rw [if_pos (fun z => hcw (ce.mp z)), lt_eq]
            refine ow_some.mpr ?_
            show _ = _
            rw [es, if_neg hcw]) (fun s hs => by
          subst hs
          show ow (M_X9_setter_L33 τ' (nI k) (stS T g (lf g c) k (ln g c)) (nI (ln g c))) _
          unfold M_X9_setter_L33
          rw [m3.1, if_pos ((nI_leI (by omega) (by omega)).mpr (Nat.le_refl _))]
          exact ow_some.mpr rfl) 0 ((-2 : Int32), (0 : Int32)) (Nat.zero_le _) rfl
        rw [show iter (fun s : Int32 × Int32 => M_X9_setter_L33 τ' (nI k) s.1 s.2) FU ((-2 : Int32), (0 : Int32)) = some x from h1, h2]
      rw [f1, bnd1_some, if_pos n01, h4, chk_pos ht, p1, bnd1_some, e8, bnd1_some, f2, bnd1_some, if_pos n01, hc, bnd1_some, m1, bnd1_some, e9, bnd1_some]
      exact ⟨_, _, _, rfl, rfl, Rel_KC (p2.kc (by decide)) (Rel_KM m2.1 hR)⟩
    · rw [f1, bnd1_some, if_neg z00, f2, bnd1_some, if_neg z00]
      exact ⟨_, _, _, rfl, rfl, h⟩
  · rw [e1, bnd1_some, if_pos rfl, e2, bnd1_some, if_pos rfl]
    exact ⟨_, _, _, rfl, rfl, h⟩
theorem st_35 : Sp_35 Rel := by
  intro σ τ h a
  obtain ⟨T, t, l, g, τ1, hc, hK, hR, hQ, hT⟩ := ask_start h
  obtain ⟨hW, hO, hP, hn⟩ := q_bd hQ
  obtain ⟨ht, h4, hl, h18, hTI, hTC, hTM⟩ := gR_mid hT
  have hI := hQ.2.2.2.2.1
  unfold M_X8_clash M_X9_clash
  rcases q_isCopy hT a with ⟨c, hc5, rfl, e1, e2⟩ | ⟨e1, e2⟩
  · obtain ⟨σ', p1, p2, p3⟩ := c_play hQ (q := 108) (c := c) (by decide) (by omega)
    obtain ⟨τ', m1, m2, m3, _⟩ := m_doesAll hQ (show c < 5 by omega)
    have lx := ln_facts hI (show c < 5 by omega)
    have hN : ln g c ≤ gW g := lx.2.2.1
    have run : ∀ (d i k : Nat), i + d = ln g c → d < k → ∃ x y r, iter (fun s : Int32 => M_X8_clash_L28 σ' s) k (nI i) = some x ∧ iter (fun s : Int32 => M_X9_clash_L21 τ' s) k (nI i) = some y ∧ sx (un0 (some ((-2 : Int32), σ'))) (fun q => some q) x = some (r, σ') ∧ sx (un0 (some ((-2 : Int32), τ'))) (fun q => some q) y = some (r, τ') := by
      intro d
      induction d with
      | zero =>
        intro i k hi hk
        obtain ⟨m, rfl⟩ : ∃ m, k = m + 1 := ⟨k - 1, by omega⟩
        have hle : nI (ln g c) ≤ nI i := (nI_leI (by omega) (by omega)).mpr (by omega)
        refine ⟨.inl (), .inl (), -2, it_x ?_, it_x ?_, rfl, rfl⟩
        · show M_X8_clash_L28 σ' (nI i) = _
          unfold M_X8_clash_L28
          rw [p3.1, if_pos hle]
        · show M_X9_clash_L21 τ' (nI i) = _
          unfold M_X9_clash_L21
          rw [m3.1, if_pos hle]
      | succ d ih =>
        intro i k hi hk
        obtain ⟨m, rfl⟩ : ∃ m, k = m + 1 := ⟨k - 1, by omega⟩
        have hle : ¬ nI (ln g c) ≤ nI i := fun z => by have := (nI_leI (by omega) (by omega)).mp z; omega
        have ci : ib (nI i) 60 := (ib_nI (by omega)).mpr (by omega)
        have xi : ix (nI i) = i := ix_nI (by omega)
        have ho := (do_out (e := envS T g (lf g c) i) hTI (hI.2.2.2.2.2.2.2.2.2.1 _ (lx.1 i (by omega))).1).1
        have ho : outS T g (lf g c) i = 0 ∨ outS T g (lf g c) i = 1 ∨ outS T g (lf g c) i = 2 ∨ outS T g (lf g c) i = 3 := ho
        have e8 : M_X8_clash_L28 σ' (nI i) = if outS T g (lf g c) i = 0 then some (.inl (nI (i + 1))) else some (.inr (.inr (nI (lf g c i), σ'))) := by
          unfold M_X8_clash_L28 M_X4_outcomeAt
          rw [p3.1, if_neg hle, if_neg (nI_n0 (by omega)), if_neg hle, chk_pos ci, xi, (p3.2.2.1 i (by omega)).1, bnd1_some, chk_pos ci, show gI σ' (108 + 3) i = nI (lf g c i) from p3.2.1 i (by omega), nI_1]
          rfl
        have e9 : M_X9_clash_L21 τ' (nI i) = if outS T g (lf g c) i ≤ 0 then some (.inl (nI (i + 1))) else some (.inr (.inr (nI (lf g c i), τ'))) := by
          unfold M_X9_clash_L21
          rw [m3.1, if_neg hle, chk_pos ci, xi, (m3.2.2.1 i (by omega)).1, chk_pos ci, m3.2.1 i (by omega), nI_1]
          rfl
        by_cases h0 : outS T g (lf g c) i = 0
        · rw [if_pos h0] at e8
          rw [if_pos (by rw [h0]; decide)] at e9
          obtain ⟨x, y, r, q1, q2, q3, q4⟩ := ih (i + 1) m (by omega) (by omega)
          exact ⟨x, y, r, (it_s e8).trans q1, (it_s e9).trans q2, q3, q4⟩
        · rw [if_neg h0] at e8
          rw [if_neg (by rcases ho with z | z | z | z; exact absurd z h0; rw [z]; decide; rw [z]; decide; rw [z]; decide)] at e9
          exact ⟨_, _, nI (lf g c i), it_x e8, it_x e9, rfl, rfl⟩
    obtain ⟨x, y, r, q1, q2, q3, q4⟩ := run (ln g c) 0 FU (by omega) (FU_big (by omega))
    rw [e1, bnd1_some, if_pos n01, h4, chk_pos ht, p1, bnd1_some, show (0 : Int32) = nI 0 from rfl, q1, bnd1_some, q3, e2, bnd1_some]
    rw [if_pos (show (1 : Int32) ≠ nI 0 by decide), hc, bnd1_some, m1, bnd1_some, q2, bnd1_some, q4]
    exact ⟨_, _, _, rfl, rfl, Rel_KC (p2.kc (by decide)) (Rel_KM m2.1 hR)⟩
  · rw [e1, bnd1_some, if_neg z00, e2, bnd1_some, if_neg z00]
    exact ⟨_, _, _, rfl, rfl, h⟩
theorem st_24 : Sp_24 Rel := by
  intro σ τ h a b
  obtain ⟨T, t, l, g, τ1, hc, hK, hR, hQ, hT⟩ := ask_start h
  obtain ⟨hW, hO, hP, hn⟩ := q_bd hQ
  have hI := hQ.2.2.2.2.1
  unfold M_X8_differ M_X9_differ
  rcases q_isCopy hT a with ⟨c, hc5, rfl, e1, e2⟩ | ⟨e1, e2⟩
  · rw [e2, bnd1_some, if_neg n10]
    rcases q_isCopy hT b with ⟨d, hd5, rfl, f1, f2⟩ | ⟨f1, f2⟩
    · obtain ⟨σ', p1, p2, p3⟩ := c_play hQ (q := 108) (c := c) (by decide) (by omega)
      have hKC := p2.kc (by decide)
      have hQ' := hQ.kc hKC
      obtain ⟨ht, h4, hl, h18, hTI, hTC, hTM⟩ := gR_mid hQ.1
      obtain ⟨_, h4', _, _, _, _, _⟩ := gR_mid hQ'.1
      have hC6 : tC T ≤ 6 := hTI.2.2.2.2.1
      obtain ⟨σ2, r1, r2, r3⟩ := c_play hQ' (q := 116) (c := d) (by decide) (by omega)
      have hKC2 := r2.kc (by decide)
      have p3' : PlC T g c 108 σ2 := p3.o (fun x h1 h2 => r2.2 x (Or.inl (by omega)))
      obtain ⟨τ', m1, m2, m3, _⟩ := m_doesAll hQ (show c < 5 by omega)
      have q := cp_loop (σ0 := τ') (a := 29) (b := 33) (sp := 0) (dp := 0) (N := 6) (body := fun s : Int32 × Wd => M_X9_differ_L29 (nI d) s.1 s.2) (Or.inl (by decide)) (by decide) (fun i s hi hc _ => by
        show M_X9_differ_L29 (nI d) (nI i) s = _
        unfold M_X9_differ_L29
        by_cases h0 : 6 ≤ i
        · rw [if_pos (show (6 : Int32) ≤ nI i from (nI_leI (a := 6) (by decide) (by omega)).mpr h0), if_pos h0]
        · rw [if_neg (show ¬ (6 : Int32) ≤ nI i from fun z => h0 ((nI_leI (a := 6) (by decide) (by omega)).mp z)), if_neg h0, chk_pos ((ib_nI (by omega)).mpr (by omega)), chk_pos ((ib_nI (by omega)).mpr (by omega)), ix_nI (by omega), nI_1, Nat.zero_add]
          rfl)
      have hk3 : KQ τ' (rI τ' 33 (va_cpy (τ'.1 29) (τ'.1 33) 0 0 6)) := KQ.wI rfl (by decide) (by decide) KQ.refl
      obtain ⟨τ3, n1, n2, n3, n4⟩ := m_doesAll (hQ.kq (m2.trans hk3)) (show d < 5 by omega)
      have lc : ln g c ≤ gW g := (ln_facts hI (show c < 5 by omega)).2.2.1
      have ld : ln g d ≤ gW g := (ln_facts hI (show d < 5 by omega)).2.2.1
      have e33 : ∀ k, k < tC T → gI τ3 33 k = envS T g (lf g c) (ln g c) k := fun k hk => (congrFun (n4 33 (by decide) (by decide) (by decide) (by decide) (by decide) (by decide) (by decide)) k).trans (by
        show gI (rI τ' 33 _) 33 k = _
        rw [gI_rI_s, cpy_at (by omega)]
        exact m3.2.2.2 k hk)
      have hQ3 := hQ.kq ((m2.trans hk3).trans n2)
      obtain ⟨_, _, hl3, h183, _, _, hTM3⟩ := gR_mid hQ3.1
      obtain ⟨_, h42, _, _, _, hTC2, _⟩ := gR_mid ((hQ'.kc hKC2).1)
      have run : ∀ (dd i k : Nat) (v : Int32), i + dd = tC T → dd < k → ∃ r, iter (fun s : Int32 × Int32 => M_X8_differ_L48 σ2 s.1 s.2) k (v, nI i) = some r ∧ iter (fun s : Int32 × Int32 => M_X9_differ_L63 τ3 s.1 s.2) k (v, nI i) = some r := by
        intro dd
        induction dd with
        | zero =>
          intro i k v hi hk
          obtain ⟨m, rfl⟩ : ∃ m, k = m + 1 := ⟨k - 1, by omega⟩
          have hle : nI (tC T) ≤ nI i := (nI_leI (by omega) (by omega)).mpr (by omega)
          refine ⟨v, it_x ?_, it_x ?_⟩
          · show M_X8_differ_L48 σ2 v (nI i) = _
            unfold M_X8_differ_L48
            rw [h42, chk_pos ht, hTC2.1.2.2.2.1, if_pos hle]
          · show M_X9_differ_L63 τ3 v (nI i) = _
            unfold M_X9_differ_L63
            rw [h183, chk_pos ((ib_nI (by omega)).mpr hl), ix_nI (by omega), hTM3.1.2.2.2.1, if_pos hle]
        | succ dd ih =>
          intro i k v hi hk
          obtain ⟨m, rfl⟩ : ∃ m, k = m + 1 := ⟨k - 1, by omega⟩
          have hle : ¬ nI (tC T) ≤ nI i := fun z => by have := (nI_leI (by omega) (by omega)).mp z; omega
          obtain ⟨r, q1, q2⟩ := ih (i + 1) m (if envS T g (lf g c) (ln g c) i = envS T g (lf g d) (ln g d) i then v else v ||| ((1 : Int32) <<< (nI i &&& 31))) (by omega) (by omega)
          refine ⟨r, (it_s ?_).trans q1, (it_s ?_).trans q2⟩
          · show M_X8_differ_L48 σ2 v (nI i) = _
            unfold M_X8_differ_L48
            rw [h42, chk_pos ht, hTC2.1.2.2.2.1, if_neg hle, c_last p3' (by omega) (by omega) hC6, bnd1_some, c_last r3 (by omega) (by omega) hC6, bnd1_some, nI_1]
            by_cases hz : envS T g (lf g c) (ln g c) i = envS T g (lf g d) (ln g d) i
            · rw [if_pos hz, if_pos hz]; rfl
            · rw [if_neg hz, if_neg hz]; rfl
          · show M_X9_differ_L63 τ3 v (nI i) = _
            unfold M_X9_differ_L63
            rw [h183, chk_pos ((ib_nI (by omega)).mpr hl), ix_nI (by omega), hTM3.1.2.2.2.1, if_neg hle, chk_pos ((ib_nI (by omega)).mpr (by omega)), chk_pos ((ib_nI (by omega)).mpr (by omega)), ix_nI (by omega), e33 i (by omega), n3.2.2.2 i (by omega), nI_1]
            by_cases hz : envS T g (lf g c) (ln g c) i = envS T g (lf g d) (ln g d) i
            · rw [if_pos hz, if_pos hz]; rfl
            · rw [if_neg hz, if_neg hz]; rfl
      obtain ⟨r, q1, q2⟩ := run (tC T) 0 FU 0 (by omega) (FU_big (by omega))
      rw [are_t e1 f1, bnd1_some, if_pos n01, h4, chk_pos ht, p1, bnd1_some, h4', chk_pos ht, r1, bnd1_some, f2, bnd1_some, if_pos n01, hc, bnd1_some, m1, bnd1_some, show ((0 : Int32), τ') = (nI 0, τ') from rfl, q, bnd1_some]
      refine ⟨r, σ2, τ3, ?_, ?_, Rel_KC (hKC.trans hKC2) (Rel_KM ((m2.trans hk3).trans n2).1 hR)⟩
      · rw [show ((0 : Int32), (0 : Int32)) = ((0 : Int32), nI 0) from rfl, q1]
        rfl
      · show bnd1 (M_X9_doesAll (rI τ' 33 (va_cpy (τ'.1 29) (τ'.1 33) 0 0 6)) (nI d)) _ = _
        rw [n1, bnd1_some, show ((0 : Int32), (0 : Int32)) = ((0 : Int32), nI 0) from rfl, q2]
        rfl
    · rw [are_g e1 f1, bnd1_some, if_neg z00, f2, bnd1_some, if_neg z00]
      exact ⟨_, _, _, rfl, rfl, h⟩
  · rw [are_f e1, bnd1_some, if_neg z00, e2, bnd1_some, if_pos rfl]
    exact ⟨_, _, _, rfl, rfl, h⟩
