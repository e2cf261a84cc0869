/-! hangs, key -/
def PlM2 (T : Td) (g : Gs) (c : Nat) (τ : Wd) : Prop := gI τ 0 45 = nI (ln g c) ∧ (∀ i, i < ln g c → gI τ 27 i = nI (lf g c i)) ∧ (∀ i, i < ln g c → gI τ 30 i = outS T g (lf g c) i)
theorem m_hangs {T : Td} {t l : Nat} {g : Gs} {σ τ : Wd} (h : Qd T t l g σ τ) {c p : Nat} (hc : c < 5) (hp : PlM2 T g c τ) (hpn : p < ln g c) : ∃ τ', M_X9_fillsHangs τ (nI p) = some τ' ∧ KQ τ τ' ∧ PlM2 T g c τ' ∧ gI τ' 0 55 = nI (cH T g (lf g c) p (ln g c)) ∧ gI τ' 0 56 = fH T g (lf g c) p (ln g c) := by
  obtain ⟨hW, hO, hP, hn5⟩ := q_bd h
  obtain ⟨ht, h4, hl, h18, hTI, hTC, hTM⟩ := gR_mid h.1
  have hI := h.2.2.2.2.1
  have lx := ln_facts hI hc
  have hN : ln g c ≤ 60 := Nat.le_trans lx.2.2.1 hW
  have hf60 : ∀ i, i < ln g c → lf g c i < 60 := fun i hi => Nat.lt_of_lt_of_le (lx.1 i hi) hW
  obtain ⟨p45, p27, p30⟩ := hp
  have q1 := cp_loop (σ0 := τ) (a := 30) (b := 34) (sp := 0) (dp := 0) (N := ln g c) (body := fun s : Int32 × Wd => M_X9_fillsHangs_L2 (nI p) s.1 s.2) (Or.inl (by decide)) (by omega) (fun i s hi hcc _ => by
    show M_X9_fillsHangs_L2 (nI p) (nI i) s = _
    have e : gI s 0 45 = nI (ln g c) := (congrFun (hcc 0 (by decide)) 45).trans p45
    unfold M_X9_fillsHangs_L2
    rw [e]
    by_cases h0 : ln g c ≤ i
    · rw [if_pos ((nI_leI (by omega) (by omega)).mpr h0), if_pos h0]
    · rw [if_neg (fun z => h0 ((nI_leI (by omega) (by omega)).mp z)), if_neg h0, chk_pos ((ib_nI (by omega)).mpr (by omega)), chk_pos ((ib_nI (by omega)).mpr (by omega)), ix_nI (by omega), nI_1, Nat.zero_add]
      rfl)
  have ka : KQ τ (rI τ 34 (va_cpy (τ.1 30) (τ.1 34) 0 0 (ln g c))) := KQ.wI rfl (by decide) (by decide) KQ.refl
  obtain ⟨F, a1, a2⟩ := m_firstCells (h.kq ka)
  have kb : KQ τ (uI (uI (rI (rI τ 34 (va_cpy (τ.1 30) (τ.1 34) 0 0 (ln g c))) 29 F) 0 55 0) 0 56 (-2)) := KQ.wO (by decide) (by decide) (KQ.wO (by decide) (by decide) (KQ.wI rfl (by decide) (by decide) ka))
  obtain ⟨x, h1, h2, h3, h4', h5, h6, h7⟩ := ow_for (body := fun s : Int32 × Wd => M_X9_fillsHangs_L45 (nI p) s.1 s.2) (Q := fun x => KQ τ x ∧ gI x 0 45 = nI (ln g c) ∧ (∀ j, j < ln g c → gI x 27 j = nI (lf g c j)) ∧ (∀ j, j < ln g c → gI x 34 j = outS T g (lf g c) j) ∧ gI x 0 55 = nI (cH T g (lf g c) p (ln g c)) ∧ gI x 0 56 = fH T g (lf g c) p (ln g c)) (fun i s => ∃ τi, s = (nI i, τi) ∧ KQ τ τi ∧ gI τi 0 45 = nI (ln g c) ∧ (∀ j, j < ln g c → gI τi 27 j = nI (lf g c j)) ∧ (∀ j, j < ln g c → gI τi 34 j = outS T g (lf g c) j) ∧ gI τi 0 55 = nI (cH T g (lf g c) p i) ∧ gI τi 0 56 = fH T g (lf g c) p i ∧ ∀ k, k < tC T → gI τi 29 k = eH T g (lf g c) p i k) (ln g c) (FU_big (by omega)) (fun i s hi ⟨τi, hs, hK, e45, e27, e34, e55, e56, e29⟩ => by
    subst hs
    show ow (M_X9_fillsHangs_L45 (nI p) (nI i) τi) _
    have ee : eH T g (lf g c) p (i + 1) = if i = p then eH T g (lf g c) p i else (doS T g (lf g c i) (eH T g (lf g c) p i)).2.2 := rfl
    have ec : cH T g (lf g c) p (i + 1) = if p < i ∧ oH T g (lf g c) p i ≠ outS T g (lf g c) i then cH T g (lf g c) p i + 1 else cH T g (lf g c) p i := rfl
    have ef : fH T g (lf g c) p (i + 1) = if (p < i ∧ oH T g (lf g c) p i ≠ outS T g (lf g c) i) ∧ cH T g (lf g c) p i = 0 then nI (lf g c i) else fH T g (lf g c) p i := rfl
    have hcl := cH_le (T := T) (g := g) (f := lf g c) (p := p) i
    have ci : ib (nI i) 60 := (ib_nI (by omega)).mpr (by omega)
    have xi : ix (nI i) = i := ix_nI (by omega)
    unfold M_X9_fillsHangs_L45
    rw [e45, if_neg (fun z => by have := (nI_leI (by omega) (by omega)).mp z; omega)]
    by_cases hip : i = p
    · rw [if_neg (fun z => z (by rw [hip])), lt_eq, nI_1]
      exact ow_some.mpr ⟨τi, rfl, hK, e45, e27, e34, by rw [ec, if_neg (fun z => by omega)]; exact e55, by rw [ef, if_neg (fun z => by have := z.1.1; omega)]; exact e56, fun k hk => by rw [ee, if_pos hip]; exact e29 k hk⟩
    · obtain ⟨τ2, b1, b2, b3, b4⟩ := m_doneOne (h.kq hK) (w := lf g c i) (i := i) (e := eH T g (lf g c) p i) (lx.1 i hi) (by omega) e29
      have k2 := hK.trans b2.kq
      have c45 : gI τ2 0 45 = nI (ln g c) := (b2.2.2.1 45 (by decide)).trans e45
      have c55 : gI τ2 0 55 = nI (cH T g (lf g c) p i) := (b2.2.2.1 55 (by decide)).trans e55
      have c56 : gI τ2 0 56 = fH T g (lf g c) p i := (b2.2.2.1 56 (by decide)).trans e56
      have c27 : ∀ j, j < ln g c → gI τ2 27 j = nI (lf g c j) := fun j hj => (congrFun (b2.2.1 27 (by decide) (by decide) (by decide) (by decide) (by decide)) j).trans (e27 j hj)
      have c34 : ∀ j, j < ln g c → gI τ2 34 j = outS T g (lf g c) j := fun j hj => (congrFun (b2.2.1 34 (by decide) (by decide) (by decide) (by decide) (by decide)) j).trans (e34 j hj)
      have c29 : ∀ k, k < tC T → gI τ2 29 k = eH T g (lf g c) p (i + 1) k := fun k hk => by rw [ee, if_neg hip]; exact b4 k hk
      rw [if_pos (show nI i ≠ nI p from fun z => hip ((nI_eq (by omega) (by omega)).mp z)), chk_pos ci, xi, e27 i hi, b1, bnd2_some]
      by_cases hlt : i < p
      · rw [if_pos ((nI_ltI (by omega) (by omega)).mpr hlt), lt_eq, nI_1]
        exact ow_some.mpr ⟨τ2, rfl, k2, c45, c27, c34, by rw [ec, if_neg (fun z => by omega)]; exact c55, by rw [ef, if_neg (fun z => by have := z.1.1; omega)]; exact c56, c29⟩
      · rw [if_neg (fun z => hlt ((nI_ltI (by omega) (by omega)).mp z)), chk_pos ci, c34 i hi]
        have hpi : p < i := by omega
        by_cases ho : oH T g (lf g c) p i = outS T g (lf g c) i
        · rw [if_neg (fun z => z ho), lt_eq, nI_1]
          exact ow_some.mpr ⟨τ2, rfl, k2, c45, c27, c34, by rw [ec, if_neg (fun z => z.2 ho)]; exact c55, by rw [ef, if_neg (fun z => z.1.2 ho)]; exact c56, c29⟩
        · rw [if_pos (show (doS T g (lf g c i) (eH T g (lf g c) p i)).1 ≠ outS T g (lf g c) i from ho), c55]
          unfold M_X9_fillsHangs_J108
          by_cases h0 : cH T g (lf g c) p i = 0
          · rw [h0, if_neg (show ¬ nI 0 ≠ 0 by decide), chk_pos ci, c27 i hi, lt_eq, lt_eq, lt_eq, nI_1, show gI (uI τ2 0 56 (nI (lf g c i))) 0 55 = nI 0 from by rw [gI_uI, if_neg (by omega), c55, h0], nI_1]
            refine ow_some.mpr ⟨_, rfl, KQ.wO (by decide) (by decide) (KQ.wO (by decide) (by decide) k2), ?_, fun j hj => ?_, fun j hj => ?_, ?_, ?_, fun k hk => ?_⟩
            · rw [gI_uI, if_neg (by omega), gI_uI, if_neg (by omega)]; exact c45
            · rw [gI_uI, if_neg (by omega), gI_uI, if_neg (by omega)]; exact c27 j hj
            · rw [gI_uI, if_neg (by omega), gI_uI, if_neg (by omega)]; exact c34 j hj
            · rw [gI_uI, if_pos ⟨rfl, rfl⟩, ec, if_pos ⟨hpi, ho⟩, h0]
            · rw [gI_uI, if_neg (by omega), gI_uI, if_pos ⟨rfl, rfl⟩, ef, if_pos ⟨⟨hpi, ho⟩, h0⟩]
            · rw [gI_uI, if_neg (by omega), gI_uI, if_neg (by omega)]; exact c29 k hk
          · rw [if_pos (show nI (cH T g (lf g c) p i) ≠ 0 from nI_ne0 (by omega) (by omega)), lt_eq, lt_eq, c55, nI_1, nI_1]
            refine ow_some.mpr ⟨_, rfl, KQ.wO (by decide) (by decide) k2, ?_, fun j hj => ?_, fun j hj => ?_, ?_, ?_, fun k hk => ?_⟩
            · rw [gI_uI, if_neg (by omega)]; exact c45
            · rw [gI_uI, if_neg (by omega)]; exact c27 j hj
            · rw [gI_uI, if_neg (by omega)]; exact c34 j hj
            · rw [gI_uI, if_pos ⟨rfl, rfl⟩, ec, if_pos ⟨hpi, ho⟩]
            · rw [gI_uI, if_neg (by omega), ef, if_neg (fun z => h0 z.2)]; exact c56
            · rw [gI_uI, if_neg (by omega)]; exact c29 k hk) (fun s ⟨τi, hs, hK, e45, e27, e34, e55, e56, e29⟩ => by
    subst hs
    show ow (M_X9_fillsHangs_L45 (nI p) (nI (ln g c)) τi) _
    unfold M_X9_fillsHangs_L45
    rw [e45, if_pos ((nI_leI (by omega) (by omega)).mpr (Nat.le_refl _))]
    exact ow_some.mpr ⟨hK, e45, e27, e34, e55, e56⟩) 0 (nI 0, uI (uI (rI (rI τ 34 (va_cpy (τ.1 30) (τ.1 34) 0 0 (ln g c))) 29 F) 0 55 0) 0 56 (-2)) (Nat.zero_le _) ⟨_, rfl, kb, by
      rw [gI_uI, if_neg (by omega), gI_uI, if_neg (by omega), gI_rI_n (by decide), gI_rI_n (by decide)]; exact p45, fun j hj => by
      rw [gI_uI, if_neg (by omega), gI_uI, if_neg (by omega), gI_rI_n (by decide), gI_rI_n (by decide)]; exact p27 j hj, fun j hj => by
      rw [gI_uI, if_neg (by omega), gI_uI, if_neg (by omega), gI_rI_n (by decide), gI_rI_s, cpy_at hj]; exact p30 j hj, by
      rw [gI_uI, if_neg (by omega), gI_uI, if_pos ⟨rfl, rfl⟩]; rfl, by
      rw [gI_uI, if_pos ⟨rfl, rfl⟩]; rfl, fun k hk => by
      rw [gI_uI, if_neg (by omega), gI_uI, if_neg (by omega), gI_rI_s]; exact a2 k hk⟩
  have q2 := cp_loop (σ0 := x) (a := 34) (b := 30) (sp := 0) (dp := 0) (N := ln g c) (body := fun s : Int32 × Wd => M_X9_fillsHangs_L126 s.1 s.2) (Or.inl (by decide)) (by omega) (fun i s hi hcc _ => by
    show M_X9_fillsHangs_L126 (nI i) s = _
    have e : gI s 0 45 = nI (ln g c) := (congrFun (hcc 0 (by decide)) 45).trans h3
    unfold M_X9_fillsHangs_L126
    rw [e]
    by_cases h0 : ln g c ≤ i
    · rw [if_pos ((nI_leI (by omega) (by omega)).mpr h0), if_pos h0]
    · rw [if_neg (fun z => h0 ((nI_leI (by omega) (by omega)).mp z)), if_neg h0, chk_pos ((ib_nI (by omega)).mpr (by omega)), chk_pos ((ib_nI (by omega)).mpr (by omega)), ix_nI (by omega), nI_1, Nat.zero_add]
      rfl)
  refine ⟨rI x 30 (va_cpy (x.1 34) (x.1 30) 0 0 (ln g c)), ?_, KQ.wI rfl (by decide) (by decide) h2, ⟨(gI_rI_n (by decide)).trans h3, fun i hi => (gI_rI_n (by decide)).trans (h4' i hi), fun i hi => by rw [gI_rI_s, cpy_at hi]; exact h5 i hi⟩, (gI_rI_n (by decide)).trans h6, (gI_rI_n (by decide)).trans h7⟩
  unfold M_X9_fillsHangs
  rw [show ((0 : Int32), τ) = (nI 0, τ) from rfl, q1, bnd1_some]
  show bnd1 (M_X9_firstCells (rI τ 34 (va_cpy (τ.1 30) (τ.1 34) 0 0 (ln g c)))) _ = _
  rw [a1, bnd1_some, lt_eq, lt_eq]
  show bnd1 (iter (fun s : Int32 × Wd => M_X9_fillsHangs_L45 (nI p) s.1 s.2) FU (nI 0, uI (uI (rI (rI τ 34 (va_cpy (τ.1 30) (τ.1 34) 0 0 (ln g c))) 29 F) 0 55 0) 0 56 (-2))) _ = _
  rw [h1, bnd1_some]
  show bnd1 (iter (fun s : Int32 × Wd => M_X9_fillsHangs_L126 s.1 s.2) FU (nI 0, x)) _ = _
  rw [q2]
  rfl
theorem PlM.two {T : Td} {g : Gs} {c : Nat} {τ : Wd} (h : PlM T g c τ) : PlM2 T g c τ := ⟨h.1, h.2.1, fun i hi => (h.2.2.1 i hi).1⟩
theorem in01_t {k : Nat} (h : k < 2) : M_X9_in (nI k) 0 1 = some 1 := m_inl_t (c := k) (m := 1) (by omega) (by decide)
theorem in01_f {v : Int32} (h : v < 0 ∨ nI 2 ≤ v) : M_X9_in v 0 1 = some 0 := m_inl_f (m := 1) h (by decide)
theorem st_26 : Sp_26 Rel := by
  intro σ τ h a b d
  obtain ⟨T, t, l, g, τ1, hc, hK, hR, hQ, hT, hM, _⟩ := ask_start2 h
  obtain ⟨hW, hO, hP, hn⟩ := q_bd hQ
  obtain ⟨ht, h4, hl, h18, hTI, hTC, hTM⟩ := gR_mid hT
  have hI := hQ.2.2.2.2.1
  unfold M_X8_hangs M_X9_hangs
  rcases q_isCopy hT a with ⟨c, hc5, rfl, e1, e2⟩ | ⟨e1, e2⟩
  · rw [e1, bnd1_some, if_neg n10, e2, bnd1_some, if_neg n10]
    rcases q_isWrite2 hQ hM b with ⟨w, hw, rfl, f1, f2⟩ | ⟨f1, f2⟩
    · rw [f1, bnd1_some, if_neg n10, f2, bnd1_some, if_neg n10]
      rcases bd_cases d (n := 2) (by decide) with ⟨k, hk, rfl⟩ | hd
      · have lx := ln_facts hI (show c < 5 by omega)
        have hN : ln g c ≤ gW g := lx.2.2.1
        obtain ⟨τ', m1, m2, m3, _⟩ := m_doesAll hQ (show c < 5 by omega)
        have mw := m_where (w := w) (f := lf g c) m3.1 (by omega) (by omega) (fun i hi => ⟨m3.2.1 i hi, by have := lx.1 i hi; omega⟩)
        rw [if_neg (nI_n0 (by omega)), if_pos (show nI k ≤ 1 from (nI_leI (b := 1) (by omega) (by decide)).mpr (by omega)), in01_t hk, bnd1_some, if_pos n01, q_has hQ (by omega) (by omega), bnd1_some, hc, bnd1_some, m1, bnd1_some]
        by_cases hA : gA g c w = 1
        · obtain ⟨i0, hi0, hie0⟩ := lx.2.2.2.2 w hw hA
          obtain ⟨i, hi, hie, mw⟩ := mw.resolve_right (fun z => z.1 i0 hi0 hie0)
          obtain ⟨σ', p1, p2, p3⟩ := c_play hQ (q := 108) (c := c) (by decide) (by omega)
          have hKC := p2.kc (by decide)
          have hQ' := hQ.kc hKC
          obtain ⟨_, h4', _, _, _, _, _⟩ := gR_mid hQ'.1
          have cw := c_place (w := w) (f := lf g c) p3.1 (by omega) (by omega) (fun i hi => ⟨p3.2.1 i hi, by have := lx.1 i hi; omega⟩)
          obtain ⟨i', hi', hie', cw⟩ := cw.resolve_right (fun z => z.1 i0 hi0 hie0)
          obtain rfl : i' = i := lg_u hI (show c < 5 by omega) hi' hi (hie'.trans hie.symm)
          obtain ⟨σ2, w1, w2, w3, w4⟩ := c_weigh hQ' (q := 108) (by decide) (show c < 5 by omega) p3 hi'
          obtain ⟨τ2, v1, v2, v3, v4, v5⟩ := m_hangs (hQ.kq m2) (show c < 5 by omega) m3.two hi'
          rw [if_pos hA, if_pos n01, h4, chk_pos ht, p1, bnd1_some, h4', chk_pos ht, cw, bnd1_some, w1, bnd1_some, mw, bnd1_some, if_pos (i0le (by omega)), v1, bnd1_some, w3, w4, v4, v5]
          by_cases hk0 : nI k ≠ 0
          · rw [if_pos hk0, if_pos hk0]
            exact ⟨_, _, _, rfl, rfl, Rel_KC (hKC.trans (w2.kc (by decide))) (Rel_KM (m2.trans v2).1 hR)⟩
          · rw [if_neg hk0, if_neg hk0]
            exact ⟨_, _, _, rfl, rfl, Rel_KC (hKC.trans (w2.kc (by decide))) (Rel_KM (m2.trans v2).1 hR)⟩
        · obtain ⟨_, mw⟩ := mw.resolve_left (fun ⟨j, hj, hje, _⟩ => hA (by rw [← hje]; exact lx.2.2.2.1 j hj))
          rw [if_neg hA, if_neg z00, mw, bnd1_some, if_neg (show ¬ (0 : Int32) ≤ -1 by decide)]
          exact ⟨_, _, _, rfl, rfl, Rel_KM m2.1 hR⟩
      · rw [in01_f hd, bnd1_some, if_neg z00]
        by_cases h1 : d < 0
        · rw [if_pos h1]
          exact ⟨_, _, _, rfl, rfl, h⟩
        · rw [if_neg h1, if_neg (show ¬ d ≤ 1 from nI_le_not (m := 1) (nI_lt0 hd h1) (by decide))]
          exact ⟨_, _, _, rfl, rfl, h⟩
    · rw [f1, bnd1_some, if_pos rfl, f2, bnd1_some, if_pos rfl]
      exact ⟨_, _, _, rfl, rfl, h⟩
  · rw [e1, bnd1_some, if_pos rfl, e2, bnd1_some, if_pos rfl]
    exact ⟨_, _, _, rfl, rfl, h⟩
theorem st_29 : Sp_29 Rel := by
  intro σ τ h a d
  obtain ⟨T, t, l, g, τ1, hc, hK, hR, hQ, hT⟩ := ask_start h
  obtain ⟨hW, hO, hP, hn⟩ := q_bd hQ
  obtain ⟨ht, h4, hl, h18, hTI, hTC, hTM⟩ := gR_mid hT
  have hI := hQ.2.2.2.2.1
  unfold M_X8_key M_X9_key
  rcases q_isCopy hT a with ⟨c, hc5, rfl, e1, e2⟩ | ⟨e1, e2⟩
  · rw [e1, bnd1_some, if_neg n10, e2, bnd1_some, if_neg n10]
    rcases bd_cases d (n := 2) (by decide) with ⟨kk, hk, rfl⟩ | hd
    · have lx := ln_facts hI (show c < 5 by omega)
      have hN : ln g c ≤ gW g := lx.2.2.1
      obtain ⟨τ', m1, m2, m3, _⟩ := m_doesAll hQ (show c < 5 by omega)
      obtain ⟨σ', p1, p2, p3⟩ := c_play hQ (q := 108) (c := c) (by decide) (by omega)
      have hKC := p2.kc (by decide)
      rw [if_neg (nI_n0 (by omega)), if_pos (show nI kk ≤ 1 from (nI_leI (b := 1) (by omega) (by decide)).mpr (by omega)), in01_t hk, bnd1_some, if_pos n01, hc, bnd1_some, m1, bnd1_some, h4, chk_pos ht, p1, bnd1_some]
      have run : ∀ (dd i k m : Nat) (fd : Int32) (σi τi : Wd), i + dd = ln g c → dd < k → m ≤ 60 → (m = 0 ∧ fd = -2 ∨ m ≠ 0 ∧ ∃ w, w < 60 ∧ fd = nI w) → KC σ σi → PlC T g c 108 σi → KQ τ1 τi → PlM2 T g c τi → ∃ m' fd' σ2 τ2, (m' = 0 ∧ fd' = -2 ∨ m' ≠ 0 ∧ ∃ w, w < 60 ∧ fd' = nI w) ∧ m' ≤ 60 ∧ iter (fun s : Int32 × Int32 × Int32 × Wd => M_X8_key_L44 (nI kk) s.1 s.2.1 s.2.2.1 s.2.2.2) k (nI m, fd, nI i, σi) = some (nI m', fd', σ2) ∧ iter (fun s : Int32 × Int32 × Int32 × Wd => M_X9_key_L38 (nI kk) s.1 s.2.1 s.2.2.1 s.2.2.2) k (fd, (if m = 0 then -2 else nI m), nI i, τi) = some (fd', (if m' = 0 then -2 else nI m'), τ2) ∧ KC σ σ2 ∧ KQ τ1 τ2 := by
        intro dd
        induction dd with
        | zero =>
          intro i k m fd σi τi hi hk hm hfd hkc hpl hkq hpm
          obtain ⟨k', rfl⟩ : ∃ k', k = k' + 1 := ⟨k - 1, by omega⟩
          have hle : nI (ln g c) ≤ nI i := (nI_leI (by omega) (by omega)).mpr (by omega)
          refine ⟨m, fd, σi, τi, hfd, hm, it_x ?_, it_x ?_, hkc, hkq⟩
          · show M_X8_key_L44 (nI kk) (nI m) fd (nI i) σi = _
            unfold M_X8_key_L44
            rw [hpl.1, if_pos hle]
          · show M_X9_key_L38 (nI kk) fd (if m = 0 then -2 else nI m) (nI i) τi = _
            unfold M_X9_key_L38
            rw [hpm.1, if_pos hle]
        | succ dd ih =>
          intro i k m fd σi τi hi hk hm hfd hkc hpl hkq hpm
          obtain ⟨k', rfl⟩ : ∃ k', k = k' + 1 := ⟨k - 1, by omega⟩
          have hle : ¬ nI (ln g c) ≤ nI i := fun z => by have := (nI_leI (by omega) (by omega)).mp z; omega
          have hQi := hQ.kc hkc
          obtain ⟨_, h4i, _, _, _, _, _⟩ := gR_mid hQi.1
          obtain ⟨σ2, w1, w2, w3, w4⟩ := c_weigh hQi (q := 108) (by decide) (show c < 5 by omega) hpl (show i < ln g c by omega)
          obtain ⟨τ2, v1, v2, v3, v4, v5⟩ := m_hangs (hQ.kq hkq) (show c < 5 by omega) hpm (show i < ln g c by omega)
          have hcl := cH_le (T := T) (g := g) (f := lf g c) (p := i) (ln g c)
          have hpl2 := FW.pl hpl w2
          have ci : ib (nI i) 60 := (ib_nI (by omega)).mpr (by omega)
          have xi : ix (nI i) = i := ix_nI (by omega)
          have e8 : M_X8_key_L44 (nI kk) (nI m) fd (nI i) σi = if nI (cH T g (lf g c) i (ln g c)) ≤ nI m then some (.inl (nI m, fd, nI (i + 1), σ2)) else some (.inl (nI (cH T g (lf g c) i (ln g c)), nI (lf g c i), nI (i + 1), σ2)) := by
            unfold M_X8_key_L44
            rw [hpl.1, if_neg hle, h4i, chk_pos ht, w1, bnd1_some, w3, nI_1, lt_eq, lt_eq, chk_pos ci, xi, show gI σ2 (108 + 3) i = nI (lf g c i) from hpl2.2.1 i (by omega), lt_eq, lt_eq]
          have e9 : ∀ q : Int32, M_X9_key_L38 (nI kk) fd q (nI i) τi = if nI (cH T g (lf g c) i (ln g c)) = 0 then some (.inl (fd, q, nI (i + 1), τ2)) else if q < nI (cH T g (lf g c) i (ln g c)) then some (.inl (nI (lf g c i), nI (cH T g (lf g c) i (ln g c)), nI (i + 1), τ2)) else some (.inl (fd, q, nI (i + 1), τ2)) := fun q => by
            unfold M_X9_key_L38
            rw [hpm.1, if_neg hle, v1, bnd1_some, v4, nI_1, chk_pos ci, xi, v3.2.1 i (by omega), lt_eq, lt_eq, lt_eq, lt_eq]
          generalize cH T g (lf g c) i (ln g c) = cc at *
          by_cases hc0 : cc = 0
          · obtain ⟨m', fd', σ3, τ3, z1, z2, z3, z4, z5, z6⟩ := ih (i + 1) k' m fd σ2 τ2 (by omega) (by omega) hm hfd (hkc.trans (w2.kc (by decide))) hpl2 (hkq.trans v2) v3
            refine ⟨m', fd', σ3, τ3, z1, z2, (it_s ?_).trans z3, (it_s ?_).trans z4, z5, z6⟩
            · exact e8.trans (if_pos ((nI_leI (by omega) (by omega)).mpr (by omega)))
            · exact (e9 _).trans (if_pos (by rw [hc0]; rfl))
          · have hne : ¬ nI cc = 0 := nI_ne0 (by omega) (by omega)
            by_cases hlt : m < cc
            · have hw60 : lf g c i < 60 := by have := lx.1 i (by omega); omega
              obtain ⟨m', fd', σ3, τ3, z1, z2, z3, z4, z5, z6⟩ := ih (i + 1) k' cc (nI (lf g c i)) σ2 τ2 (by omega) (by omega) (by omega) (Or.inr ⟨hc0, _, hw60, rfl⟩) (hkc.trans (w2.kc (by decide))) hpl2 (hkq.trans v2) v3
              refine ⟨m', fd', σ3, τ3, z1, z2, (it_s ?_).trans z3, (it_s ?_).trans z4, z5, z6⟩
              · exact e8.trans (if_neg (fun z => by have := (nI_leI (by omega) (by omega)).mp z; omega))
              · have hq : (if m = 0 then (-2 : Int32) else nI m) < nI cc := by
                  by_cases hm0 : m = 0
                  · rw [if_pos hm0, Int32.lt_iff_toInt_lt, nI_toInt (by omega), show (-2 : Int32).toInt = -2 from rfl]
                    omega
                  · rw [if_neg hm0]
                    exact (nI_ltI (by omega) (by omega)).mpr hlt
                rw [if_neg hc0]
                exact (e9 _).trans ((if_neg hne).trans (if_pos hq))
            · obtain ⟨m', fd', σ3, τ3, z1, z2, z3, z4, z5, z6⟩ := ih (i + 1) k' m fd σ2 τ2 (by omega) (by omega) hm hfd (hkc.trans (w2.kc (by decide))) hpl2 (hkq.trans v2) v3
              refine ⟨m', fd', σ3, τ3, z1, z2, (it_s ?_).trans z3, (it_s ?_).trans z4, z5, z6⟩
              · exact e8.trans (if_pos ((nI_leI (by omega) (by omega)).mpr (by omega)))
              · refine (e9 _).trans ((if_neg hne).trans (if_neg ?_))
                rw [if_neg (show ¬ m = 0 by omega)]
                exact fun z => hlt ((nI_ltI (by omega) (by omega)).mp z)
      obtain ⟨m', fd', σ2, τ2, z1, z2, z3, z4, z5, z6⟩ := run (ln g c) 0 FU 0 (-2) σ' τ' (by omega) (FU_big (by omega)) (by omega) (Or.inl ⟨rfl, rfl⟩) hKC p3 m2 m3.two
      rw [show ((0 : Int32), (-2 : Int32), (0 : Int32), σ') = (nI 0, (-2 : Int32), nI 0, σ') from rfl, z3, bnd1_some]
      rw [show ((-2 : Int32), (-2 : Int32), (0 : Int32), τ') = ((-2 : Int32), (if 0 = 0 then (-2 : Int32) else nI 0), nI 0, τ') from rfl, z4, bnd1_some]
      have hfin : Rel σ2 τ2 := Rel_KC z5 (Rel_KM z6.1 hR)
      show ∃ r σ' τ', (if fd' ≠ (-2 : Int32) then (if nI kk ≠ 0 then some (nI m', σ2) else some (fd', σ2)) else some ((-2 : Int32), σ2)) = some (r, σ') ∧ (if nI kk ≠ 0 then some ((if m' = 0 then (-2 : Int32) else nI m'), τ2) else some (fd', τ2)) = some (r, τ') ∧ Rel σ' τ'
      rcases z1 with ⟨y1, y2⟩ | ⟨y1, w, y2, y3⟩
      · rw [y2, if_neg (fun z => z rfl), if_pos y1]
        by_cases hk0 : nI kk ≠ 0
        · rw [if_pos hk0]; exact ⟨_, _, _, rfl, rfl, hfin⟩
        · rw [if_neg hk0]; exact ⟨_, _, _, rfl, rfl, hfin⟩
      · rw [y3, if_pos (show nI w ≠ -2 from fun z => nI_n0 (show w < 2 ^ 31 by omega) (by rw [z]; decide)), if_neg y1]
        by_cases hk0 : nI kk ≠ 0
        · rw [if_pos hk0, if_pos hk0]; exact ⟨_, _, _, rfl, rfl, hfin⟩
        · rw [if_neg hk0, if_neg hk0]; exact ⟨_, _, _, rfl, rfl, hfin⟩
    · rw [in01_f hd, bnd1_some, if_neg z00]
      by_cases h1 : d < 0
      · rw [if_pos h1]
        exact ⟨_, _, _, rfl, rfl, h⟩
      · rw [if_neg h1, if_neg (show ¬ d ≤ 1 from nI_le_not (m := 1) (nI_lt0 hd h1) (by decide))]
        exact ⟨_, _, _, rfl, rfl, h⟩
  · rw [e1, bnd1_some, if_pos rfl, e2, bnd1_some, if_pos rfl]
    exact ⟨_, _, _, rfl, rfl, h⟩
