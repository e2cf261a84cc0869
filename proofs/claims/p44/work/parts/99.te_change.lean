/-! the changes as the class makes them, the ghosts said out -/
/-- the order given, where it is the primary -/
def ltG (g : Gs) (c : Nat) : Gs := if c = gP g then uG (oG g (lgf g (hsP g (gP g)) (gO g)) (lgn g (hsP g (gP g)) (gO g))) 6 (gP g) 0 (lgn g (hsP g (gP g)) (gO g)) else g
/-- a write made, told to its session -/
def mkG (g : Gs) (v : Int32) (c f : Nat) (x : Int32) (gm : Gs) : Prop := (v = -1 ∧ gm = aG g c f (clkN g c (gW g) + 1) x) ∨ ∃ s, s < 4 ∧ v = nI s ∧ gm = uG (aG g c f (clkN g c (gW g) + 1) x) 14 s c (clkN g c (gW g) + 1)
theorem Mid.lastX {T : Td} {t l : Nat} {g0 g : Gs} {σ1 τ0 σ τ : Wd} {c : Nat} (h : Mid T g0 σ1 τ0 g σ τ) (hT : RText T t l σ1 τ0) (hc : c < tN T) : ∃ g' σ' τ', g' = ltG g c ∧ (∀ v5, M_X1_addWrite_J97 σ (nI c) v5 = some (v5, σ')) ∧ M_X9_makes_J143 τ (nI c) = some τ' ∧ Mid T g0 σ1 τ0 g' σ' τ' ∧ gW g' = gW g := by
  have hQ := h.qd hT
  obtain ⟨hW, hO, hPn, hn⟩ := q_bd hQ
  have hI := hQ.2.2.2.2.1
  have e8 : M_X1_primary σ = some (nI (gP g)) := c_primary hQ.2.1.1.2.1
  have e9 : gI τ 26 (ix (2 : Int32)) = nI (gP g) := hQ.2.2.2.1.1.2.2.1
  by_cases q : c = gP g
  · obtain ⟨F, d1, d2⟩ := c_lay (a := 36) (P := hsP g c) hQ (by decide) (hI.2.2.1 c (by omega)) (q_bits hQ (by omega))
    have hm := h.ba (F := F) (Or.inr rfl)
    have hKO : gK g c = gO g := by rw [q]; exact hI.2.2.2.1
    obtain ⟨v1, v2, σ', τ', u1, u2, u3, _⟩ := hm.give hT (by rw [← q, ← hKO]; exact fun i hi => gI_rI_s.trans (d2 i hi))
    rw [← q, ← hKO] at u1
    rw [← q] at u2
    refine ⟨_, σ', τ', (if_pos q).symm, fun v5 => ?_, ?_, u3, rfl⟩
    · unfold M_X1_addWrite_J97
      rw [e8, bnd1_some, if_neg (fun z => z (by rw [q])), c_setOf (by omega), bnd1_some, (q_known hQ (show c < 5 by omega)).1, bnd1_some, d1, bnd2_some]
      show bnd1 (M_X1_giveOrder (rI σ 36 F) 36 60 (nI (lgn g (hsP g c) (gK g c)))) _ = _
      rw [u1, bnd1_some]
    · unfold M_X9_makes_J143
      rw [chk_pos (by decide), e9, if_neg (fun z => z (by rw [q])), u2, bnd1_some]
  · have hne : nI c ≠ nI (gP g) := fun z => q ((nI_eq (by omega) (by omega)).mp z)
    refine ⟨g, σ, τ, (if_neg q).symm, fun v5 => ?_, ?_, h, rfl⟩
    · unfold M_X1_addWrite_J97
      rw [e8, bnd1_some, if_pos hne]
    · unfold M_X9_makes_J143
      rw [chk_pos (by decide), e9, if_pos hne]
set_option maxHeartbeats 4000000 in
theorem Mid.makeX {T : Td} {t l : Nat} {g0 g : Gs} {σ1 τ0 σ τ : Wd} {c f : Nat} {v x : Int32} (h : Mid T g0 σ1 τ0 g σ τ) (hT : RText T t l σ1 τ0) (hW : gW g < 60) (hc : c < tN T) (hf : f < tF T) (hv : v = -1 ∨ ∃ s, s < 4 ∧ v = nI s) : ∃ g' σ' τ', (∃ gm, mkG g v c f x gm ∧ g' = ltG gm c) ∧ M_X1_addWrite σ v (nI c) (nI f) x = some (nI (gW g), σ') ∧ M_X9_makes τ v (nI c) (nI f) x = some τ' ∧ Mid T g0 σ1 τ0 g' σ' τ' ∧ gW g' = gW g + 1 := by
  have hQ := h.qd hT
  obtain ⟨_, hO, hPn, hn⟩ := q_bd hQ
  have hI := hQ.2.2.2.2.1
  have hcl := clkN_W (c := c) hI (gW g) (Nat.le_refl _)
  have hm := h.write (x := x) hW hc hf
  have hck := c_clk (q_wr (q_wr (q_wr hQ (a := 30) (v := nI f) (by decide)) (a := 31) (v := x) (by decide)) (a := 32) (v := nI c) (by decide)) (show c < 5 by omega)
  have hmk := m_clk hQ (show c < 5 by omega)
  have cw : ib (nI (gW g)) 60 := (ib_nI (by omega)).mpr hW
  have xw : ix (nI (gW g)) = gW g := ix_nI (by omega)
  have e8 : M_X1_addWrite σ v (nI c) (nI f) x = if v = -1 then M_X1_addWrite_J97 (uL (uL (uI (uI (uI (uI σ 30 (gW g) (nI f)) 31 (gW g) x) 32 (gW g) (nI c)) 33 (gW g) (nI (clkN g c (gW g) + 1))) 29 2 (lN (gW g + 1))) 29 (6 + c) (gL σ 29 (6 + c) ||| ((1 : Int64) <<< ((nI (gW g)).toInt64 &&& 63)))) (nI c) (nI (gW g)) else chk (ib (76 + v * 5 + nI c) 96) (M_X1_addWrite_J97 (uL (uL (uL (uI (uI (uI (uI σ 30 (gW g) (nI f)) 31 (gW g) x) 32 (gW g) (nI c)) 33 (gW g) (nI (clkN g c (gW g) + 1))) 29 2 (lN (gW g + 1))) 29 (6 + c) (gL σ 29 (6 + c) ||| ((1 : Int64) <<< ((nI (gW g)).toInt64 &&& 63)))) 29 (ix (76 + v * 5 + nI c)) (nI (clkN g c (gW g) + 1)).toInt64) (nI c) (nI (gW g))) := by
    unfold M_X1_addWrite
    rw [q_writes hQ, bnd1_some]
    simp only [chk_pos cw, lt_eq, xw]
    rw [hck, bnd1_some, nI_1, chk_pos (by decide), chk_pos (by decide), show ix (2 : Int32) = 2 from rfl, show (6 : Int32) + nI c = nI (6 + c) from nI_add 6 c, chk_pos ((ib_nI (by omega)).mpr (by omega)), chk_pos ((ib_nI (by omega)).mpr (by omega)), ix_nI (show 6 + c < 2 ^ 31 by omega)]
    rw [show gL (uI (uI (uI (uI σ 30 (gW g) (nI f)) 31 (gW g) x) 32 (gW g) (nI c)) 33 (gW g) (nI (clkN g c (gW g) + 1))) 29 2 = lN (gW g) from hQ.2.1.1.2.2.1, lN_1]
    rw [show gL (uL (uI (uI (uI (uI σ 30 (gW g) (nI f)) 31 (gW g) x) 32 (gW g) (nI c)) 33 (gW g) (nI (clkN g c (gW g) + 1))) 29 2 (lN (gW g + 1))) 29 (6 + c) = gL σ 29 (6 + c) from by rw [gL_uL, if_neg (by omega)]; rfl]
    rw [show gI (uL (uL (uI (uI (uI (uI σ 30 (gW g) (nI f)) 31 (gW g) x) 32 (gW g) (nI c)) 33 (gW g) (nI (clkN g c (gW g) + 1))) 29 2 (lN (gW g + 1))) 29 (6 + c) (gL σ 29 (6 + c) ||| ((1 : Int64) <<< ((nI (gW g)).toInt64 &&& 63)))) 33 (gW g) = nI (clkN g c (gW g) + 1) from by rw [gI_uL, gI_uL, gI_uI, if_pos ⟨rfl, rfl⟩]]
  have e9 : M_X9_makes τ v (nI c) (nI f) x = if v < 0 then M_X9_makes_J143 (rI τ 26 (upd (upd (upd (upd (upd (upd (upd (τ.1 26) 0 (nI (gW g + 1))) (110 + 5 * gW g) (nI f)) (110 + 5 * gW g + 1) x) (110 + 5 * gW g + 2) (nI c)) (110 + 5 * gW g + 3) (nI (clkN g c (gW g) + 1))) (110 + 5 * gW g + 4) (-2)) (470 + 60 * c + gW g) 1)) (nI c) else chk (ib (50 + 14 * v + 8 + nI c) 770) (M_X9_makes_J143 (uI (rI τ 26 (upd (upd (upd (upd (upd (upd (upd (τ.1 26) 0 (nI (gW g + 1))) (110 + 5 * gW g) (nI f)) (110 + 5 * gW g + 1) x) (110 + 5 * gW g + 2) (nI c)) (110 + 5 * gW g + 3) (nI (clkN g c (gW g) + 1))) (110 + 5 * gW g + 4) (-2)) (470 + 60 * c + gW g) 1)) 26 (ix (50 + 14 * v + 8 + nI c)) (nI (clkN g c (gW g) + 1))) (nI c)) := by
    have a0 : (110 : Int32) + 5 * nI (gW g) = nI (110 + 5 * gW g) := by rw [show (110 : Int32) = nI 110 from rfl, show (5 : Int32) = nI 5 from rfl, pk_mul, nI_add]
    have b0 : (470 : Int32) + 60 * nI c + nI (gW g) = nI (470 + 60 * c + gW g) := by rw [show (470 : Int32) = nI 470 from rfl, show (60 : Int32) = nI 60 from rfl, pk_mul, nI_add, nI_add]
    have e0 : gI τ 26 0 = nI (gW g) := hQ.2.2.2.1.1.1
    unfold M_X9_makes
    rw [chk_pos (by decide), show ix (0 : Int32) = 0 from rfl, e0]
    simp only [lt_eq]
    rw [hmk, bnd1_some, chk_pos (by decide), chk_pos (by decide), nI_1, nI_1, a0, b0, show nI (110 + 5 * gW g) + 1 = nI (110 + 5 * gW g + 1) from nI_add _ 1, show nI (110 + 5 * gW g) + 2 = nI (110 + 5 * gW g + 2) from nI_add _ 2, show nI (110 + 5 * gW g) + 3 = nI (110 + 5 * gW g + 3) from nI_add _ 3, show nI (110 + 5 * gW g) + 4 = nI (110 + 5 * gW g + 4) from nI_add _ 4, chk_pos ((ib_nI (by omega)).mpr (by omega)), chk_pos ((ib_nI (by omega)).mpr (by omega)), chk_pos ((ib_nI (by omega)).mpr (by omega)), chk_pos ((ib_nI (by omega)).mpr (by omega)), chk_pos ((ib_nI (by omega)).mpr (by omega)), chk_pos ((ib_nI (by omega)).mpr (by omega)), ix_nI (show 110 + 5 * gW g < 2 ^ 31 by omega), ix_nI (show 110 + 5 * gW g + 1 < 2 ^ 31 by omega), ix_nI (show 110 + 5 * gW g + 2 < 2 ^ 31 by omega), ix_nI (show 110 + 5 * gW g + 3 < 2 ^ 31 by omega), ix_nI (show 110 + 5 * gW g + 4 < 2 ^ 31 by omega), ix_nI (show 470 + 60 * c + gW g < 2 ^ 31 by omega)]
    rw [show uI τ 26 0 (nI (gW g + 1)) = rI τ 26 (upd (τ.1 26) 0 (nI (gW g + 1))) from rfl, uI_rI, uI_rI, uI_rI, uI_rI, uI_rI, uI_rI]
  rcases hv with rfl | ⟨s, hs, rfl⟩
  · obtain ⟨g', σ', τ', l0, l1, l2, l3, l4⟩ := hm.lastX hT hc
    rw [if_pos rfl] at e8
    rw [if_pos (show (-1 : Int32) < 0 by decide)] at e9
    exact ⟨g', σ', τ', ⟨_, Or.inl ⟨rfl, rfl⟩, l0⟩, by rw [e8, l1], by rw [e9, l2], l3, l4⟩
  · have c1 : (76 : Int32) + nI s * 5 + nI c = nI (76 + 5 * s + c) := by rw [show (76 : Int32) = nI 76 from rfl, show (5 : Int32) = nI 5 from rfl, pk_mul, nI_add, nI_add, Nat.mul_comm]
    have c2 : (50 : Int32) + 14 * nI s + 8 + nI c = nI (50 + 14 * s + 8 + c) := by rw [b50, show nI (50 + 14 * s) + 8 = nI (50 + 14 * s + 8) from nI_add _ 8, nI_add]
    have hm2 := hm.own (s := s) (o := c) (v := clkN g c (gW g) + 1) hs (by omega) (by omega)
    obtain ⟨g', σ', τ', l0, l1, l2, l3, l4⟩ := hm2.lastX hT hc
    rw [if_neg (show ¬ nI s = -1 from fun z => nI_n0 (show s < 2 ^ 31 by omega) (by rw [z]; decide)), c1, chk_pos ((ib_nI (by omega)).mpr (by omega)), ix_nI (by omega), show (nI (clkN g c (gW g) + 1)).toInt64 = lN (clkN g c (gW g) + 1) from lN_I (by omega)] at e8
    rw [if_neg (nI_n0 (by omega)), c2, chk_pos ((ib_nI (by omega)).mpr (by omega)), ix_nI (by omega)] at e9
    exact ⟨g', σ', τ', ⟨_, Or.inr ⟨s, hs, rfl, rfl⟩, l0⟩, by rw [e8, l1], by rw [e9, l2], l3, l4⟩
/-! what depends on the numbers that are no counters alone -/
theorem vecN_1 {g g' : Gs} {c o : Nat} (h : g'.1 = g.1) : ∀ k, vecN g' c o k = vecN g c o k := vec_cong (fun t x y _ => by rw [h])
theorem clkN_1 {g g' : Gs} {c : Nat} (h : g'.1 = g.1) : ∀ k, clkN g' c k = clkN g c k := by
  intro k
  induction k with
  | zero => rfl
  | succ k ih =>
    show (if g'.1 11 c k = 1 then max (clkN g' c k) (g'.1 9 k 0) else clkN g' c k) = (if g.1 11 c k = 1 then max (clkN g c k) (g.1 9 k 0) else clkN g c k)
    rw [ih, h]
theorem bhN_1 {g g' : Gs} {c : Nat} {F : Nat → Nat} (h : g'.1 = g.1) : ∀ n, bhN g' c F n = bhN g c F n := by
  intro n
  induction n with
  | zero => rfl
  | succ n ih =>
    show (bhN g' c F n || decide (vecN g' c n (g'.1 0 0 0) < F n)) = (bhN g c F n || decide (vecN g c n (g.1 0 0 0) < F n))
    rw [ih, vecN_1 h, h]
theorem rfM_1 {T : Td} {g g' : Gs} {s c : Nat} (h : g'.1 = g.1) : rfM T g' s c = rfM T g s c := by
  show ((decide (g'.1 12 s 0 / 4 % 2 = 1) && bhN g' c (g'.1 13 s) (tN T)) || (decide (g'.1 12 s 0 / 8 = 1) && bhN g' c (g'.1 14 s) (tN T))) = ((decide (g.1 12 s 0 / 4 % 2 = 1) && bhN g c (g.1 13 s) (tN T)) || (decide (g.1 12 s 0 / 8 = 1) && bhN g c (g.1 14 s) (tN T)))
  rw [bhN_1 h, bhN_1 h, h]
theorem rfA_1 {T : Td} {g g' : Gs} {s c : Nat} (h : g'.1 = g.1) : rfA T g' s c = rfA T g s c := by
  show ((decide (g'.1 12 s 0 % 2 = 1) && bhN g' c (g'.1 14 s) (tN T)) || (decide (g'.1 12 s 0 / 2 % 2 = 1) && bhN g' c (g'.1 13 s) (tN T))) = ((decide (g.1 12 s 0 % 2 = 1) && bhN g c (g.1 14 s) (tN T)) || (decide (g.1 12 s 0 / 2 % 2 = 1) && bhN g c (g.1 13 s) (tN T)))
  rw [bhN_1 h, bhN_1 h, h]
section XC
variable {T : Td} {g : Gs} {un : Nat} {hs sl : Nat → Gs} {hl : Nat → Nat} {σ : Wd}
/-- a write: made, refused; v: the session or none -/
theorem x_make (h : At T g un hs sl hl σ) (hun : un < 40) {v x : Int32} {c f : Nat} (hc : c < tN T) (hf : f < tF T) (hv : v = -1 ∨ ∃ s, s < 4 ∧ v = nI s) (hW : gW g < 60) : (∃ s, s < 4 ∧ v = nI s ∧ rfM T g s c = true ∧ ∃ σ', M_X8_make σ v (nI c) (nI f) x = some (-2, σ') ∧ At T (shG (uV (opG g c) 5 s (iRf g s + 1)) c) (un + 1) (pushH hs un g) sl hl σ') ∨ ((v = -1 ∨ ∃ s, s < 4 ∧ v = nI s ∧ rfM T g s c = false) ∧ ∃ gm σ', mkG (opG g c) v c f x gm ∧ M_X8_make σ v (nI c) (nI f) x = some (nI (gW g), σ') ∧ At T (shG (ltG gm c) c) (un + 1) (pushH hs un g) sl hl σ') := by
  have n5 := h.n5
  obtain ⟨t, l, τ0, hQ, σ1, τ1, hk, hT1, hm, hend⟩ := h.lay hun
  obtain ⟨ht, h4, hl2, h18, hTI, hTC, hTM⟩ := gR_mid hQ.1
  obtain ⟨g2, σ2, τ2, eg2, p1, p2, m2, f1, f2⟩ := hm.opensX hc
  have hQ2 := m2.qd hT1
  have hW2 : gW g2 = gW g := f1 _ _ _
  have full : ∃ gm g3 σ3 τ3, mkG g2 v c f x gm ∧ g3 = shG (ltG gm c) c ∧ M_X8_make_J100 σ2 v (nI c) (nI f) x = some (nI (gW g), σ3) ∧ Mid T g σ1 τ1 g3 σ3 τ3 := by
    obtain ⟨gA, σA, τA, ⟨gm, b0, b1⟩, a1, a2, a3, a4⟩ := m2.makeX (x := x) hT1 (by omega) hc hf hv
    obtain ⟨gB, σB, τB, e1, c1, c2, c3, _⟩ := a3.shutsX hc
    refine ⟨gm, gB, σB, τB, b0, by rw [e1, b1], ?_, c3⟩
    unfold M_X8_make_J100
    rw [q_writes hQ2, bnd1_some, hW2, if_pos (show nI (gW g) < 60 from (nI_ltI (b := 60) (by omega) (by decide)).mpr hW)]
    rw [hW2] at a1
    rw [a1, bnd2_some]
    unfold M_X8_make_J132
    rw [c1, bnd1_some]
  have e24 : ∀ t0, M_X8_make_J24 σ v (nI c) (nI f) x t0 = if t0 ≠ 0 then M_X8_make_J100 σ2 v (nI c) (nI f) x else bnd1 (M_X1_refusesMake σ2 v (nI c)) (fun r79 => if r79 = 0 then M_X8_make_J100 σ2 v (nI c) (nI f) x else bnd1 (M_X1_refuse σ2 v) fun s_90 => M_X8_make_J132 s_90 (nI c) (-2 : Int32)) := fun t0 => by
    unfold M_X8_make_J24
    rw [x_isCopy h hc, bnd1_some, if_neg n10, if_neg (nI_n0 (by omega)), h4, chk_pos ht, hTC.1.2.2.2.2, if_pos ((nI_ltI (by omega) (by omega)).mpr hf), hk, bnd1_some, p1, bnd1_some]
  rcases hv with rfl | ⟨s, hs4, rfl⟩
  · right
    obtain ⟨gm, g3, σ3, τ3, u0, u1, u2, u3⟩ := full
    refine ⟨Or.inl rfl, gm, σ3, by rw [← eg2]; exact u0, ?_, by rw [← u1]; exact hend _ _ _ u3⟩
    unfold M_X8_make M_X8_make_J10
    rw [if_neg (fun z => z rfl), if_pos n01, e24, if_pos n01, u2]
  · have er : rfM T g2 s c = rfM T g s c := rfM_1 (by rw [eg2]; rfl)
    have e10 : M_X8_make σ (nI s) (nI c) (nI f) x = if boI (rfM T g s c) = 0 then M_X8_make_J100 σ2 (nI s) (nI c) (nI f) x else bnd1 (M_X1_refuse σ2 (nI s)) fun s_90 => M_X8_make_J132 s_90 (nI c) (-2 : Int32) := by
      unfold M_X8_make M_X8_make_J10
      rw [if_pos (show nI s ≠ -1 from fun z => nI_n0 (show s < 2 ^ 31 by omega) (by rw [z]; decide)), if_neg z00, c_isSession_t hs4, bnd1_some, if_neg n10, e24, if_neg z00, c_rfM hQ2 hs4 (show c < 5 by omega), bnd1_some, er]
    cases hr : rfM T g s c
    · right
      obtain ⟨gm, g3, σ3, τ3, u0, u1, u2, u3⟩ := full
      refine ⟨Or.inr ⟨s, hs4, rfl, hr⟩, gm, σ3, by rw [← eg2]; exact u0, ?_, by rw [← u1]; exact hend _ _ _ u3⟩
      rw [e10, hr, if_pos (show boI false = 0 from rfl), u2]
    · left
      obtain ⟨g5, σ5, τ5, eg5, w1, w2, w3, _⟩ := m2.refuseX hs4
      obtain ⟨g6, σ6, τ6, eg6, y1, y2, y3, _⟩ := w3.shutsX hc
      refine ⟨s, hs4, rfl, hr, σ6, ?_, ?_⟩
      · rw [e10, hr, if_neg (show ¬ boI true = 0 from n10), w1, bnd1_some]
        unfold M_X8_make_J132
        rw [y1, bnd1_some]
      · have := hend _ _ _ y3
        rw [eg6, eg5, eg2] at this
        exact this
theorem x_makeBad (h : At T g un hs sl hl σ) {v x : Int32} {c f : Nat} (hc : c < 2 ^ 20) (hf : f < 2 ^ 20) (hb : (v ≠ -1 ∧ M_X8_isSession v = some 0) ∨ tN T ≤ c ∨ tF T ≤ f) (hv : v = -1 ∨ M_X8_isSession v = some 0 ∨ ∃ s, s < 4 ∧ v = nI s) : M_X8_make σ v (nI c) (nI f) x = some (-1, σ) := by
  have n5 := h.n5
  obtain ⟨t, l, τ, hQ⟩ := h.qd
  obtain ⟨ht, h4, hl2, h18, hTI, hTC, hTM⟩ := gR_mid hQ.1
  have e24 : (tN T ≤ c ∨ tF T ≤ f) → ∀ v t0, M_X8_make_J24 σ v (nI c) (nI f) x t0 = some (-1, σ) := fun hb v t0 => by
    unfold M_X8_make_J24
    by_cases hcn : c < tN T
    · rw [x_isCopy h hcn, bnd1_some, if_neg n10, if_neg (nI_n0 (by omega)), h4, chk_pos ht, hTC.1.2.2.2.2, if_neg (fun z => by have := (nI_ltI (by omega) (by omega)).mp z; omega)]
    · rw [x_noCopy h (by omega) (by omega), bnd1_some, if_pos rfl]
  unfold M_X8_make M_X8_make_J10
  by_cases hv1 : v = -1
  · rw [if_neg (fun z => z hv1), if_pos n01]
    exact e24 (by rcases hb with z | z; exact absurd hv1 z.1; exact z) _ _
  · rw [if_pos hv1, if_neg z00]
    rcases hv with z | z | ⟨s, hs4, rfl⟩
    · exact absurd z hv1
    · rw [z, bnd1_some, if_pos rfl]
    · rw [c_isSession_t hs4, bnd1_some, if_neg n10]
      refine e24 ?_ _ _
      rcases hb with z | z
      · rw [c_isSession_t hs4] at z
        exact absurd (Option.some.inj z.2) n10
      · exact z
/-- a promise -/
theorem x_promise (h : At T g un hs sl hl σ) (hun : un < 40) {s v : Nat} (hs4 : s < 4) (hv : v < 16) : (gQ g s = v ∧ M_X8_promise σ (nI s) (nI v) = some (0, σ)) ∨ (gQ g s ≠ v ∧ ∃ σ', M_X8_promise σ (nI s) (nI v) = some (1, σ') ∧ At T (uG g 12 s 0 v) (un + 1) (pushH hs un g) sl hl σ') := by
  have n5 := h.n5
  obtain ⟨t, l, τ0, hQ, σ1, τ1, hk, hT1, hm, hend⟩ := h.lay hun
  have hI := hQ.2.2.2.2.1
  have hq := hI.2.2.2.2.2.2.2.2.2.2.2.1
  have hQs := (hq s hs4).1
  have hC := hQ.2.1
  have e8 : M_X1_setPromises σ1 (nI s) (nI v) = some (uL σ1 29 (44 + s) (lN v)) := by
    unfold M_X1_setPromises
    rw [show (44 : Int32) = nI 44 from rfl, nI_add, chk_pos ((ib_nI (by omega)).mpr (by omega)), ix_nI (by omega), lN_I (by omega)]
    rfl
  have e : M_X8_promise σ (nI s) (nI v) = if nI (gQ g s) ≠ nI v then some (1, uL σ1 29 (44 + s) (lN v)) else some (0, σ) := by
    unfold M_X8_promise
    rw [c_isSession_t hs4, bnd1_some, if_neg n10, if_neg (nI_n0 (by omega)), if_pos (by rw [show (15 : Int32) = nI 15 from rfl, nI_leI (by omega) (by omega)]; omega), show (44 : Int32) = nI 44 from rfl, c_snumber (by omega), bnd1_some, show (gL σ 29 (44 + s)).toInt32 = nI (gQ g s) from lN32 (hC.2.2.2 s hs4).1, hk, bnd1_some, e8, bnd1_some]
  by_cases he : gQ g s = v
  · left
    refine ⟨he, ?_⟩
    rw [e, he, if_neg (fun z => z rfl)]
  · right
    refine ⟨he, uL σ1 29 (44 + s) (lN v), ?_, ?_⟩
    · rw [e, if_pos ((nI_ne (a := gQ g s) (b := v) (by omega) (by omega)).mpr he)]
    · have hm2 : Mid T g σ1 τ1 (uG g 12 s 0 v) (uL σ1 29 (44 + s) (lN v)) (uI τ1 26 (50 + 14 * s) (nI v)) := by
        refine hm.up ?_ ?_ ?_ ?_ ?_ rfl rfl (fun q => q)
        · refine ⟨by omega, by omega, by omega, by omega, by omega, by omega, by intro k hk e; have := hI.1.2.2.2.1; have : k < 8 := Nat.lt_of_lt_of_le hk this; omega, fun c hc => ⟨by omega, by omega, by omega, by omega, by omega, by omega⟩, fun s' hs' => ⟨fun e => ?_, by omega, by omega, fun o ho => ⟨by omega, by omega⟩⟩⟩
          have : s' = s := by omega
          subst this
          rw [show gQ (uG g 12 s' 0 v) s' = v from uG_s]
        · intro j x hj q
          obtain ⟨q1, q2, q3, q4, q5, q6, q7, q8, q9⟩ := q
          refine ⟨q1, q2, q3, q4, q5, q6, q7, q8, fun s' hs' => ⟨fun e => ?_, (q9 s' hs').2⟩⟩
          rw [show gQ (uG g 12 s 0 v) s' = gQ g s' from uG_o (by omega)]
          exact (q9 s' hs').1 e
        · have hH := hI.1.2.2.2.1
          have hW := hI.1.1
          have hO := hI.1.2.1
          refine ⟨by omega, by omega, by omega, by omega, by omega, by intro k hk e; have : k < 8 := Nat.lt_of_lt_of_le hk hH; omega, fun c hc => ⟨by omega, fun i hi e => by omega⟩, fun s' hs' => ⟨fun e => ?_, by omega, by omega, fun o ho => ⟨by omega, by omega⟩⟩, fun w hw => ⟨by omega, by omega, by omega, by omega, by omega⟩, fun i hi => ⟨by omega, by omega⟩, fun c w hc hw e => by omega⟩
          have : s' = s := by omega
          subst this
          rw [show gQ (uG g 12 s' 0 v) s' = v from uG_s]
        · intro j x hj q
          obtain ⟨q1, q2, q3, q4, q5, q6, q7, q8, q9, q10, q11⟩ := q
          refine ⟨q1, q2, q3, q4, q5, q6, q7, fun s' hs' => ⟨fun e => ?_, (q8 s' hs').2⟩, q9, q10, q11⟩
          rw [show gQ (uG g 12 s 0 v) s' = gQ g s' from uG_o (by omega)]
          exact (q8 s' hs').1 e
        · obtain ⟨i1, i2, i3, i4, i5, i6, i7, i8, i9, i10, i11, i12, i13, i14⟩ := hI
          refine ⟨i1, i2, i3, i4, i5, i6, i7, i8, i9, i10, i11, fun s' hs' => ⟨?_, (i12 s' hs').2⟩, i13, i14⟩
          by_cases e : s' = s
          · subst e
            rw [show gQ (uG g 12 s' 0 v) s' = v from uG_s]
            omega
          · rw [show gQ (uG g 12 s 0 v) s' = gQ g s' from uG_o (by omega)]
            exact (i12 s' hs').1
      exact hend _ _ _ hm2
end XC
