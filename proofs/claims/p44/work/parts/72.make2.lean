/-! make -/
theorem Mid.own {T : Td} {g0 g : Gs} {σ1 τ0 σ τ : Wd} {s o v : Nat} (h : Mid T g0 σ1 τ0 g σ τ) (hs : s < 4) (ho : o < 5) (hv : v ≤ 60) : Mid T g0 σ1 τ0 (uG g 14 s o v) (uL σ 29 (76 + 5 * s + o) (lN v)) (uI τ 26 (50 + 14 * s + 8 + o) (nI v)) := by
  have hI := h.2.2.2.2.2.2.1
  have hH := hI.1.2.2.2.1
  have hW := hI.1.1
  have hO := hI.1.2.1
  have eU : ∀ a b, gU (uG g 14 s o v) a b = if a = s ∧ b = o then v else gU g a b := fun a b => by
    by_cases q : a = s ∧ b = o
    · rw [if_pos q, q.1, q.2]; exact uG_s
    · rw [if_neg q]; exact uG_o (fun z => q z.2)
  refine h.up ?_ ?_ ?_ ?_ ?_ rfl rfl (fun q => q)
  · refine ⟨by omega, by omega, by omega, by omega, by omega, by omega, by intro k hk e; have : k < 8 := Nat.lt_of_lt_of_le hk hH; omega, fun c hc => ⟨by omega, by omega, by omega, by omega, by omega, by omega⟩, fun a ha => ⟨by omega, by omega, by omega, fun b hb => ⟨by omega, fun e => ?_⟩⟩⟩
    rw [eU, if_pos (by omega)]
  · intro j x hj q
    obtain ⟨q1, q2, q3, q4, q5, q6, q7, q8, q9⟩ := q
    refine ⟨q1, q2, q3, q4, q5, q6, q7, q8, fun a ha => ⟨(q9 a ha).1, (q9 a ha).2.1, (q9 a ha).2.2.1, fun b hb => ⟨((q9 a ha).2.2.2 b hb).1, fun e => ?_⟩⟩⟩
    rw [eU, if_neg (by omega)]
    exact ((q9 a ha).2.2.2 b hb).2 e
  · refine ⟨by omega, by omega, by omega, by omega, by omega, by intro k hk e; have : k < 8 := Nat.lt_of_lt_of_le hk hH; omega, fun c hc => ⟨by omega, fun i hi e => by omega⟩, fun a ha => ⟨by omega, by omega, by omega, fun b hb => ⟨by omega, fun e => ?_⟩⟩, fun w hw => ⟨by omega, by omega, by omega, by omega, by omega⟩, fun i hi => ⟨by omega, by omega⟩, fun c w hc hw e => by omega⟩
    rw [eU, if_pos (by omega)]
  · intro j x hj q
    obtain ⟨q1, q2, q3, q4, q5, q6, q7, q8, q9, q10, q11⟩ := q
    refine ⟨q1, q2, q3, q4, q5, q6, q7, fun a ha => ⟨(q8 a ha).1, (q8 a ha).2.1, (q8 a ha).2.2.1, fun b hb => ⟨((q8 a ha).2.2.2 b hb).1, fun e => ?_⟩⟩, q9, q10, q11⟩
    rw [eU, if_neg (by omega)]
    exact ((q8 a ha).2.2.2 b hb).2 e
  · obtain ⟨i1, i2, i3, i4, i5, i6, i7, i8, i9, i10, i11, i12, i13, i14⟩ := hI
    refine ⟨i1, i2, i3, i4, i5, i6, i7, i8, i9, i10, i11, fun a ha => ⟨(i12 a ha).1, fun b => ⟨((i12 a ha).2 b).1, ?_⟩⟩, i13, i14⟩
    rw [eU]
    by_cases q : a = s ∧ b = o
    · rw [if_pos q]; exact hv
    · rw [if_neg q]; exact ((i12 a ha).2 b).2
theorem Mid.last {T : Td} {t l : Nat} {g0 g : Gs} {σ1 τ0 σ τ : Wd} {c : Nat} (h : Mid T g0 σ1 τ0 g σ τ) (hT : RText T t l σ1 τ0) (hc : c < tN T) : ∃ g' σ' τ', (∀ v5, M_X1_addWrite_J97 σ (nI c) v5 = some (v5, σ')) ∧ M_X9_makes_J143 τ (nI c) = some τ' ∧ Mid T g0 σ1 τ0 g' σ' τ' ∧ gW g' = gW g := by
  have hQ := h.qd hT
  obtain ⟨hW, hO, hPn, hn⟩ := q_bd hQ
  have hI := hQ.2.2.2.2.1
  have e8 : M_X1_primary σ = some (nI (gP g)) := c_primary hQ.2.1.1.2.1
  have e9 : gI τ 26 (ix (2 : Int32)) = nI (gP g) := hQ.2.2.2.1.1.2.2.1
  by_cases q : c = gP g
  · obtain ⟨F, d1, d2⟩ := c_lay (a := 36) (P := hsP g c) hQ (by decide) (hI.2.2.1 c (by omega)) (q_bits hQ (by omega))
    have hm := h.ba (F := F) (Or.inr rfl)
    have hKO : gK g c = gO g := by rw [q]; exact hI.2.2.2.1
    obtain ⟨v1, v2, σ', τ', u1, u2, u3, _⟩ := hm.give hT (by rw [← q, ← hKO]; exact fun i hi => gI_rI_s.trans (d2 i hi))
    rw [← q, ← hKO] at u1
    rw [← q] at u2
    refine ⟨_, σ', τ', fun v5 => ?_, ?_, u3, rfl⟩
    · unfold M_X1_addWrite_J97
      rw [e8, bnd1_some, if_neg (fun z => z (by rw [q])), c_setOf (by omega), bnd1_some, (q_known hQ (show c < 5 by omega)).1, bnd1_some, d1, bnd2_some]
      show bnd1 (M_X1_giveOrder (rI σ 36 F) 36 60 (nI (lgn g (hsP g c) (gK g c)))) _ = _
      rw [u1, bnd1_some]
    · unfold M_X9_makes_J143
      rw [chk_pos (by decide), e9, if_neg (fun z => z (by rw [q])), u2, bnd1_some]
  · have hne : nI c ≠ nI (gP g) := fun z => q ((nI_eq (by omega) (by omega)).mp z)
    refine ⟨g, σ, τ, fun v5 => ?_, ?_, h, rfl⟩
    · unfold M_X1_addWrite_J97
      rw [e8, bnd1_some, if_pos hne]
    · unfold M_X9_makes_J143
      rw [chk_pos (by decide), e9, if_pos hne]
theorem q_wr {T : Td} {t l : Nat} {g : Gs} {σ τ : Wd} {a : Nat} {v : Int32} (h : Qd T t l g σ τ) (ha : 30 ≤ a) : Qd T t l g (uI σ a (gW g) v) τ := by
  obtain ⟨h1, h2, h3, h4, hI, h6⟩ := h
  have hO := hI.1.2.1
  have ht : t ≤ 19 := by rcases h1.1 with e | e <;> omega
  refine ⟨RText_eq (σ := σ) (τ := τ) rfl (fun c q1 q2 => rI_ne (by omega)) rfl (fun _ _ _ => rfl) h1, h2, ⟨fun w hw => ?_, fun i hi => ?_⟩, h4, hI, h6⟩
  · have e : ∀ q, gI (uI σ a (gW g) v) q w = gI σ q w := fun q => by
      show gI (uI σ a (gW g) v) q w = _
      rw [gI_uI, if_neg (by omega)]
    rw [show gI (uI σ a (gW g) v) (28 + 2) w = gI σ (28 + 2) w from e _, show gI (uI σ a (gW g) v) (28 + 3) w = gI σ (28 + 3) w from e _, show gI (uI σ a (gW g) v) (28 + 4) w = gI σ (28 + 4) w from e _, show gI (uI σ a (gW g) v) (28 + 5) w = gI σ (28 + 5) w from e _]
    exact h3.1 w hw
  · rw [gI_uI, if_neg (by omega)]
    exact h3.2 i hi
theorem Mid.make {T : Td} {t l : Nat} {g0 g : Gs} {σ1 τ0 σ τ : Wd} {c f : Nat} {v x : Int32} (h : Mid T g0 σ1 τ0 g σ τ) (hT : RText T t l σ1 τ0) (hW : gW g < 60) (hc : c < tN T) (hf : f < tF T) (hv : v = -1 ∨ ∃ s, s < 4 ∧ v = nI s) : ∃ g' σ' τ', M_X1_addWrite σ v (nI c) (nI f) x = some (nI (gW g), σ') ∧ M_X9_makes τ v (nI c) (nI f) x = some τ' ∧ Mid T g0 σ1 τ0 g' σ' τ' ∧ gW g' = gW g + 1 := by
  have hQ := h.qd hT
  obtain ⟨_, hO, hPn, hn⟩ := q_bd hQ
  have hI := hQ.2.2.2.2.1
  have hcl := clkN_W (c := c) hI (gW g) (Nat.le_refl _)
  have hm := h.write (x := x) hW hc hf
  have hck := c_clk (q_wr (q_wr (q_wr hQ (a := 30) (v := nI f) (by decide)) (a := 31) (v := x) (by decide)) (a := 32) (v := nI c) (by decide)) (show c < 5 by omega)
  have hmk := m_clk hQ (show c < 5 by omega)
  have cw : ib (nI (gW g)) 60 := (ib_nI (by omega)).mpr hW
  have xw : ix (nI (gW g)) = gW g := ix_nI (by omega)
  have e8 : M_X1_addWrite σ v (nI c) (nI f) x = if v = -1 then M_X1_addWrite_J97 (uL (uL (uI (uI (uI (uI σ 30 (gW g) (nI f)) 31 (gW g) x) 32 (gW g) (nI c)) 33 (gW g) (nI (clkN g c (gW g) + 1))) 29 2 (lN (gW g + 1))) 29 (6 + c) (gL σ 29 (6 + c) ||| ((1 : Int64) <<< ((nI (gW g)).toInt64 &&& 63)))) (nI c) (nI (gW g)) else chk (ib (76 + v * 5 + nI c) 96) (M_X1_addWrite_J97 (uL (uL (uL (uI (uI (uI (uI σ 30 (gW g) (nI f)) 31 (gW g) x) 32 (gW g) (nI c)) 33 (gW g) (nI (clkN g c (gW g) + 1))) 29 2 (lN (gW g + 1))) 29 (6 + c) (gL σ 29 (6 + c) ||| ((1 : Int64) <<< ((nI (gW g)).toInt64 &&& 63)))) 29 (ix (76 + v * 5 + nI c)) (nI (clkN g c (gW g) + 1)).toInt64) (nI c) (nI (gW g))) := by
    unfold M_X1_addWrite
    rw [q_writes hQ, bnd1_some]
    simp only [chk_pos cw, lt_eq, xw]
    rw [hck, bnd1_some, nI_1, chk_pos (by decide), chk_pos (by decide), show ix (2 : Int32) = 2 from rfl, show (6 : Int32) + nI c = nI (6 + c) from nI_add 6 c, chk_pos ((ib_nI (by omega)).mpr (by omega)), chk_pos ((ib_nI (by omega)).mpr (by omega)), ix_nI (show 6 + c < 2 ^ 31 by omega)]
    rw [show gL (uI (uI (uI (uI σ 30 (gW g) (nI f)) 31 (gW g) x) 32 (gW g) (nI c)) 33 (gW g) (nI (clkN g c (gW g) + 1))) 29 2 = lN (gW g) from hQ.2.1.1.2.2.1, lN_1]
    rw [show gL (uL (uI (uI (uI (uI σ 30 (gW g) (nI f)) 31 (gW g) x) 32 (gW g) (nI c)) 33 (gW g) (nI (clkN g c (gW g) + 1))) 29 2 (lN (gW g + 1))) 29 (6 + c) = gL σ 29 (6 + c) from by rw [gL_uL, if_neg (by omega)]; rfl]
    rw [show gI (uL (uL (uI (uI (uI (uI σ 30 (gW g) (nI f)) 31 (gW g) x) 32 (gW g) (nI c)) 33 (gW g) (nI (clkN g c (gW g) + 1))) 29 2 (lN (gW g + 1))) 29 (6 + c) (gL σ 29 (6 + c) ||| ((1 : Int64) <<< ((nI (gW g)).toInt64 &&& 63)))) 33 (gW g) = nI (clkN g c (gW g) + 1) from by rw [gI_uL, gI_uL, gI_uI, if_pos ⟨rfl, rfl⟩]]
  have e9 : M_X9_makes τ v (nI c) (nI f) x = if v < 0 then M_X9_makes_J143 (rI τ 26 (upd (upd (upd (upd (upd (upd (upd (τ.1 26) 0 (nI (gW g + 1))) (110 + 5 * gW g) (nI f)) (110 + 5 * gW g + 1) x) (110 + 5 * gW g + 2) (nI c)) (110 + 5 * gW g + 3) (nI (clkN g c (gW g) + 1))) (110 + 5 * gW g + 4) (-2)) (470 + 60 * c + gW g) 1)) (nI c) else chk (ib (50 + 14 * v + 8 + nI c) 770) (M_X9_makes_J143 (uI (rI τ 26 (upd (upd (upd (upd (upd (upd (upd (τ.1 26) 0 (nI (gW g + 1))) (110 + 5 * gW g) (nI f)) (110 + 5 * gW g + 1) x) (110 + 5 * gW g + 2) (nI c)) (110 + 5 * gW g + 3) (nI (clkN g c (gW g) + 1))) (110 + 5 * gW g + 4) (-2)) (470 + 60 * c + gW g) 1)) 26 (ix (50 + 14 * v + 8 + nI c)) (nI (clkN g c (gW g) + 1))) (nI c)) := by
    have a0 : (110 : Int32) + 5 * nI (gW g) = nI (110 + 5 * gW g) := by rw [show (110 : Int32) = nI 110 from rfl, show (5 : Int32) = nI 5 from rfl, pk_mul, nI_add]
    have b0 : (470 : Int32) + 60 * nI c + nI (gW g) = nI (470 + 60 * c + gW g) := by rw [show (470 : Int32) = nI 470 from rfl, show (60 : Int32) = nI 60 from rfl, pk_mul, nI_add, nI_add]
    have e0 : gI τ 26 0 = nI (gW g) := hQ.2.2.2.1.1.1
    unfold M_X9_makes
    rw [chk_pos (by decide), show ix (0 : Int32) = 0 from rfl, e0]
    simp only [lt_eq]
    rw [hmk, bnd1_some, chk_pos (by decide), chk_pos (by decide), nI_1, nI_1, a0, b0, show nI (110 + 5 * gW g) + 1 = nI (110 + 5 * gW g + 1) from nI_add _ 1, show nI (110 + 5 * gW g) + 2 = nI (110 + 5 * gW g + 2) from nI_add _ 2, show nI (110 + 5 * gW g) + 3 = nI (110 + 5 * gW g + 3) from nI_add _ 3, show nI (110 + 5 * gW g) + 4 = nI (110 + 5 * gW g + 4) from nI_add _ 4, chk_pos ((ib_nI (by omega)).mpr (by omega)), chk_pos ((ib_nI (by omega)).mpr (by omega)), chk_pos ((ib_nI (by omega)).mpr (by omega)), chk_pos ((ib_nI (by omega)).mpr (by omega)), chk_pos ((ib_nI (by omega)).mpr (by omega)), chk_pos ((ib_nI (by omega)).mpr (by omega)), ix_nI (show 110 + 5 * gW g < 2 ^ 31 by omega), ix_nI (show 110 + 5 * gW g + 1 < 2 ^ 31 by omega), ix_nI (show 110 + 5 * gW g + 2 < 2 ^ 31 by omega), ix_nI (show 110 + 5 * gW g + 3 < 2 ^ 31 by omega), ix_nI (show 110 + 5 * gW g + 4 < 2 ^ 31 by omega), ix_nI (show 470 + 60 * c + gW g < 2 ^ 31 by omega)]
    rw [show uI τ 26 0 (nI (gW g + 1)) = rI τ 26 (upd (τ.1 26) 0 (nI (gW g + 1))) from rfl, uI_rI, uI_rI, uI_rI, uI_rI, uI_rI, uI_rI]
  rcases hv with rfl | ⟨s, hs, rfl⟩
  · obtain ⟨g', σ', τ', l1, l2, l3, l4⟩ := hm.last hT hc
    rw [if_pos rfl] at e8
    rw [if_pos (show (-1 : Int32) < 0 by decide)] at e9
    exact ⟨g', σ', τ', by rw [e8, l1], by rw [e9, l2], l3, l4⟩
  · have c1 : (76 : Int32) + nI s * 5 + nI c = nI (76 + 5 * s + c) := by rw [show (76 : Int32) = nI 76 from rfl, show (5 : Int32) = nI 5 from rfl, pk_mul, nI_add, nI_add, Nat.mul_comm]
    have c2 : (50 : Int32) + 14 * nI s + 8 + nI c = nI (50 + 14 * s + 8 + c) := by rw [b50, show nI (50 + 14 * s) + 8 = nI (50 + 14 * s + 8) from nI_add _ 8, nI_add]
    have hm2 := hm.own (s := s) (o := c) (v := clkN g c (gW g) + 1) hs (by omega) (by omega)
    obtain ⟨g', σ', τ', l1, l2, l3, l4⟩ := hm2.last hT hc
    rw [if_neg (show ¬ nI s = -1 from fun z => nI_n0 (show s < 2 ^ 31 by omega) (by rw [z]; decide)), c1, chk_pos ((ib_nI (by omega)).mpr (by omega)), ix_nI (by omega), show (nI (clkN g c (gW g) + 1)).toInt64 = lN (clkN g c (gW g) + 1) from lN_I (by omega)] at e8
    rw [if_neg (nI_n0 (by omega)), c2, chk_pos ((ib_nI (by omega)).mpr (by omega)), ix_nI (by omega)] at e9
    exact ⟨g', σ', τ', by rw [e8, l1], by rw [e9, l2], l3, l4⟩
theorem Mid.full {T : Td} {t l : Nat} {g0 g : Gs} {σ1 τ0 σ τ : Wd} {c f : Nat} {v x : Int32} (h : Mid T g0 σ1 τ0 g σ τ) (hT : RText T t l σ1 τ0) (hc : c < tN T) (hf : f < tF T) (hv : v = -1 ∨ ∃ s, s < 4 ∧ v = nI s) : ∃ r g' σ' τa τ', M_X8_make_J100 σ v (nI c) (nI f) x = some (r, σ') ∧ M_X9_made_J19 τ v (nI c) (nI f) x = some (r, τa) ∧ M_X9_shuts τa (nI c) = some τ' ∧ Mid T g0 σ1 τ0 g' σ' τ' := by
  have hQ := h.qd hT
  obtain ⟨hW, hO, hPn, hn⟩ := q_bd hQ
  have e0 : gI τ 26 (ix (0 : Int32)) = nI (gW g) := hQ.2.2.2.1.1.1
  unfold M_X8_make_J100 M_X9_made_J19
  rw [q_writes hQ, bnd1_some, chk_pos (by decide), e0]
  by_cases h6 : gW g < 60
  · obtain ⟨g1, σ2, τ2, a1, a2, a3, a4⟩ := h.make (x := x) hT h6 hc hf hv
    obtain ⟨g2, σ3, τ3, b1, b2, b3, _⟩ := a3.shuts hc
    have e1 : gI τ2 26 (ix (0 : Int32)) = nI (gW g1) := a3.2.2.2.2.2.1.1.1
    refine ⟨nI (gW g), g2, σ3, τ2, τ3, ?_, ?_, b2, b3⟩
    · rw [if_pos (show nI (gW g) < 60 from (nI_ltI (b := 60) (by omega) (by decide)).mpr h6), a1, bnd2_some]
      unfold M_X8_make_J132
      rw [b1, bnd1_some]
    · rw [if_pos (show nI (gW g) ≠ 60 from fun z => by have := (nI_eq (b := 60) (by omega) (by decide)).mp z; omega), a2, bnd1_some, chk_pos (by decide), e1, a4, nI_pred1 (by omega), Nat.add_sub_cancel]
  · have h60 : gW g = 60 := by omega
    obtain ⟨g2, σ3, τ3, b1, b2, b3, _⟩ := h.shuts hc
    refine ⟨-1, g2, σ3, τ, τ3, ?_, ?_, b2, b3⟩
    · rw [h60, if_neg (show ¬ nI 60 < 60 by decide)]
      unfold M_X8_make_J132
      rw [b1, bnd1_some]
    · rw [h60, if_neg (show ¬ nI 60 ≠ 60 by decide)]
theorem st_4 : Sp_4 Rel := by
  intro σ τ h a b d x
  have h0 := h
  obtain ⟨T, t, l, g, hT, hN, σ1, τ1, hk, hc, ⟨hKM, hS⟩, hT1, hm, hend⟩ := lay_start h
  obtain ⟨ht, h4, hl, h18, hTI, hTC, hTM⟩ := gR_mid hT
  have hn := hTI.2.1
  have hF6 : tF T ≤ 6 := hTI.2.2.2.2.2.1
  -- the rest, for a session or none
  have rest : ∀ (v : Int32) (t0 : Int32), (v = -1 ∧ t0 = 1 ∨ (∃ s, s < 4 ∧ v = nI s) ∧ t0 = 0) → ∃ (r : Int32) (σ' τ' : Wd), M_X8_make_J24 σ v b d x t0 = some (r, σ') ∧ M_X9_make_J12 τ v b d x = some (r, τ') ∧ Rel σ' τ' := fun v t0 hv => by
    unfold M_X8_make_J24 M_X9_make_J12
    rcases q_isCopy hT b with ⟨c, hc5, rfl, e1, e2⟩ | ⟨e1, e2⟩
    · rw [e1, bnd1_some, if_neg n10, e2, bnd1_some, if_neg n10, h4, chk_pos ht, hTC.1.2.2.2.2, h18, chk_pos ((ib_nI (by omega)).mpr hl), ix_nI (by omega), hTM.1.2.2.2.2]
      rcases bd_cases d (n := tF T) (by omega) with ⟨f, hf, rfl⟩ | hd
      · rw [if_neg (nI_n0 (by omega)), if_pos ((nI_ltI (by omega) (by omega)).mpr hf), m_in_t hf (by omega), bnd1_some, if_pos n01, hk, bnd1_some, hc, bnd1_some]
        obtain ⟨g2, σ2, τ2, p1, p2, m2, f1, f2⟩ := hm.opens hc5
        rw [p1, bnd1_some, p2, bnd1_some]
        have hv2 : v = -1 ∨ ∃ s, s < 4 ∧ v = nI s := by
          rcases hv with z | z
          · exact Or.inl z.1
          · exact Or.inr z.1
        obtain ⟨r, g3, σ3, τa, τ3, u1, u2, u3, u4⟩ := m2.full (x := x) hT1 hc5 hf hv2
        obtain ⟨τ4, z1, z2⟩ := hend _ _ _ u4
        rcases hv with ⟨rfl, rfl⟩ | ⟨⟨s, hs, rfl⟩, rfl⟩
        · refine ⟨r, σ3, τ4, ?_, ?_, z2⟩
          · rw [if_pos n01, u1]
          · unfold M_X9_made
            rw [if_pos (show (-1 : Int32) < 0 by decide), u2, bnd2_some, u3, bnd1_some, z1, bnd1_some]
        · have hQ2 := m2.qd hT1
          obtain ⟨ra, rm, q1, q2, q3⟩ := q_mayMake hQ2 hs (show c < 5 by omega)
          unfold M_X9_made
          rw [if_neg z00, q1, bnd1_some, if_neg (nI_n0 (by omega)), q2, bnd1_some]
          rcases q3 with ⟨rfl, rfl⟩ | ⟨rfl, rfl⟩
          · refine ⟨r, σ3, τ4, ?_, ?_, z2⟩
            · rw [if_pos rfl, u1]
            · rw [if_pos n01, u2, bnd2_some, u3, bnd1_some, z1, bnd1_some]
          · obtain ⟨g5, σ5, τ5, w1, w2, w3, _⟩ := m2.refuse hs
            obtain ⟨g6, σ6, τ6, y1, y2, y3, _⟩ := w3.shuts hc5
            obtain ⟨τ7, x1, x2⟩ := hend _ _ _ y3
            refine ⟨-2, σ6, τ7, ?_, ?_, x2⟩
            · rw [if_neg n10, w1, bnd1_some]
              unfold M_X8_make_J132
              rw [y1, bnd1_some]
            · rw [if_neg z00, w2, bnd2_some, bnd2_some, y2, bnd1_some, x1, bnd1_some]
      · rw [m_in_f hd (by omega), bnd1_some, if_neg z00]
        by_cases h1 : d < 0
        · rw [if_pos h1]
          exact ⟨_, _, _, rfl, rfl, h0⟩
        · rw [if_neg h1, if_neg (nI_lt_not (nI_lt0 hd h1))]
          exact ⟨_, _, _, rfl, rfl, h0⟩
    · rw [e1, bnd1_some, if_pos rfl, e2, bnd1_some, if_pos rfl]
      exact ⟨_, _, _, rfl, rfl, h0⟩
  unfold M_X8_make M_X9_make M_X8_make_J10
  by_cases ha : a = -1
  · rw [if_neg (fun z => z ha), if_pos ha, if_pos n01]
    exact rest a 1 (Or.inl ⟨ha, rfl⟩)
  · rw [if_pos ha, if_neg ha, if_neg z00]
    rcases bd_cases a (n := 4) (by decide) with ⟨s, hs, rfl⟩ | hb
    · rw [c_isSession_t hs, bnd1_some, if_neg n10, m_isSession_t hs, bnd1_some, if_neg n10]
      exact rest (nI s) 0 (Or.inr ⟨⟨s, hs, rfl⟩, rfl⟩)
    · rw [c_isSession_f hb, bnd1_some, if_pos rfl, m_isSession_f hb, bnd1_some, if_pos rfl]
      exact ⟨_, _, _, rfl, rfl, h0⟩
