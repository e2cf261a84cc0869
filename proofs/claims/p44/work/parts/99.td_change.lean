/-! what a change makes, said out: the ghosts explicit -/
def opG (g : Gs) (c : Nat) : Gs := uV g 3 c (iC g 2 c + 1)
def shG (g : Gs) (c : Nat) : Gs := sG (uV g 4 c (iC g 3 c + 1)) c
def tlG (g : Gs) (a b : Nat) (x y : Int32) : Gs := shG (shG (uV (uV g 1 b (iC g 0 b + x)) 2 b (iC (uV g 1 b (iC g 0 b + x)) 1 b + y)) a) b
/-- what a meeting makes besides -/
def MtX (g : Gs) (a b s : Nat) (g' : Gs) : Prop := ∃ (g5 : Gs) (y : Int32), (∀ t x y, t ≠ 11 → t ≠ 6 → t ≠ 10 → t ≠ 1 → g5.1 t x y = g.1 t x y) ∧ g5.2 = (opG (opG g b) a).2 ∧ (∀ i, i < gO g → gD g5 i = gD g i) ∧ g' = tlG g5 a b (nI (lgn g (hsP g b) (gK g b)) - nI s) y
/-- the same without the opening -/
def MtY (g : Gs) (a b s : Nat) (g' : Gs) : Prop := ∃ (g5 : Gs) (y : Int32), (∀ t x y, t ≠ 11 → t ≠ 6 → t ≠ 10 → t ≠ 1 → g5.1 t x y = g.1 t x y) ∧ g5.2 = g.2 ∧ (∀ i, i < gO g → gD g5 i = gD g i) ∧ g' = tlG g5 a b (nI (lgn g (hsP g b) (gK g b)) - nI s) y
theorem Mid.addX {T : Td} {g0 g : Gs} {σ1 τ0 σ τ : Wd} {c i : Nat} {d : Int64} (h : Mid T g0 σ1 τ0 g σ τ) (hc : c < tN T) (hi : i < 4) : ∃ g', g' = uV g (1 + i) c (iC g i c + d.toInt32) ∧ Mid T g0 σ1 τ0 g' (uL σ 29 (16 + 5 * i + c) (gL σ 29 (16 + 5 * i + c) + d)) (uI τ 26 (15 + 6 * c + (1 + i)) (gI τ 26 (15 + 6 * c + (1 + i)) + d.toInt32)) ∧ (∀ a x y, g'.1 a x y = g.1 a x y) ∧ (∀ w, iX g' w = iX g w) := by
  have hn := h.2.2.2.2.2.2.1.1.2.2.2.2.1
  have e1 : (gL σ 29 (16 + 5 * i + c)).toInt32 = iC g i c := by
    have q := h.2.2.2.1.2.2.1 c (by omega)
    rcases (show i = 0 ∨ i = 1 ∨ i = 2 ∨ i = 3 by omega) with rfl | rfl | rfl | rfl
    · exact q.2.2.1
    · exact q.2.2.2.1
    · exact q.2.2.2.2.1
    · exact q.2.2.2.2.2
  have e2 : gI τ 26 (15 + 6 * c + (1 + i)) = iC g i c := by
    have q := (h.2.2.2.2.2.1.2.2.1 c (by omega)).2 i hi
    rwa [Nat.add_assoc] at q
  refine ⟨uV g (1 + i) c (iC g i c + d.toInt32), rfl, ?_, fun a x y => rfl, fun w => uV_o (t := 1 + i) (by omega)⟩
  have q := h.cnt (v := gL σ 29 (16 + 5 * i + c) + d) hc hi
  rw [Int64.toInt32_add, e1] at q
  rw [e2]
  exact q
theorem Mid.opensX {T : Td} {g0 g : Gs} {σ1 τ0 σ τ : Wd} {c : Nat} (h : Mid T g0 σ1 τ0 g σ τ) (hc : c < tN T) : ∃ g' σ' τ', g' = opG g c ∧ M_X1_openLog σ (nI c) = some σ' ∧ M_X9_opens τ (nI c) = some τ' ∧ Mid T g0 σ1 τ0 g' σ' τ' ∧ (∀ a x y, g'.1 a x y = g.1 a x y) ∧ (∀ w, iX g' w = iX g w) := by
  have hn := h.2.2.2.2.2.2.1.1.2.2.2.2.1
  obtain ⟨g', e0, q1, q2, q3⟩ := h.addX (d := 1) (i := 2) hc (by decide)
  refine ⟨g', _, _, e0, ?_, ?_, q1, q2, q3⟩
  · unfold M_X1_openLog
    rw [show (26 : Int32) = nI 26 from rfl, nI_add, chk_pos ((ib_nI (by omega)).mpr (by omega)), chk_pos ((ib_nI (by omega)).mpr (by omega)), ix_nI (by omega)]
    rfl
  · unfold M_X9_opens
    rw [show (3 : Int32) = nI 3 from rfl, m_adds (by omega) (by decide)]
    rfl
theorem Mid.shutsX {T : Td} {g0 g : Gs} {σ1 τ0 σ τ : Wd} {c : Nat} (h : Mid T g0 σ1 τ0 g σ τ) (hc : c < tN T) : ∃ g' σ' τ', g' = shG g c ∧ M_X1_closeLog σ (nI c) = some σ' ∧ M_X9_shuts τ (nI c) = some τ' ∧ Mid T g0 σ1 τ0 g' σ' τ' ∧ (∀ a x y, a ≠ 4 → a ≠ 5 → g'.1 a x y = g.1 a x y) ∧ (∀ w, iX g' w = iX g w) := by
  have hn := h.2.2.2.2.2.2.1.1.2.2.2.2.1
  obtain ⟨g1, e0, q1, q2, q3⟩ := h.addX (d := 1) (i := 3) hc (by decide)
  have hH : gH g1 ≤ 8 := q1.2.2.2.2.2.2.1.1.2.2.2.1
  refine ⟨sG g1 c, rL (uL σ 29 (16 + 5 * 3 + c) (gL σ 29 (16 + 5 * 3 + c) + 1)) 29 (vp_updL (vp_updL (shN ((uL σ 29 (16 + 5 * 3 + c) (gL σ 29 (16 + 5 * 3 + c) + 1)).2.1 29) 36 0) 36 (lN c)) 5 (lN (min 8 (gH g1 + 1)))), rI (uI τ 26 (15 + 6 * c + (1 + 3)) (gI τ 26 (15 + 6 * c + (1 + 3)) + (1 : Int64).toInt32)) 26 (upd (upd (shN ((uI τ 26 (15 + 6 * c + (1 + 3)) (gI τ 26 (15 + 6 * c + (1 + 3)) + (1 : Int64).toInt32)).1 26) 5 0) 5 (nI c)) 4 (nI (min 8 (gH g1 + 1)))), by rw [e0]; rfl, ?_, ?_, q1.sh hc ?_ ?_ (fun k h1 h2 => ?_) (fun j h1 h2 => ?_) ?_ ?_ (fun k h1 h2 => ?_) (fun j h1 => ?_), fun a x y h4 h5 => ?_, fun w => q3 w⟩
  · have e5 : gL (uL σ 29 (16 + 5 * 3 + c) (gL σ 29 (16 + 5 * 3 + c) + 1)) 29 5 = lN (gH g1) := q1.2.2.2.1.1.2.2.2.2.2
    unfold M_X1_closeLog
    rw [show (31 : Int32) = nI 31 from rfl, nI_add, chk_pos ((ib_nI (by omega)).mpr (by omega)), chk_pos ((ib_nI (by omega)).mpr (by omega)), ix_nI (by omega)]
    simp only [lt_eq]
    rw [c_sh]
    simp only [bnd1_some, un1]
    rw [chk_pos (by decide), chk_pos (by decide), chk_pos (by decide), lN_I (by omega), show ix (36 : Int32) = 36 from rfl, show ix (5 : Int32) = 5 from rfl]
    have e : gL (uL (rL (uL σ 29 (31 + c) (gL σ 29 (31 + c) + 1)) 29 (shN ((uL σ 29 (31 + c) (gL σ 29 (31 + c) + 1)).2.1 29) 36 0)) 29 36 (lN c)) 29 5 = lN (gH g1) := by
      rw [gL_uL, if_neg (by decide), gL_rL, if_pos rfl]
      exact e5
    rw [e, lN_1]
    have e2 : (if (8 : Int64) < lN (gH g1 + 1) then (8 : Int64) else lN (gH g1 + 1)) = lN (min 8 (gH g1 + 1)) := by
      rw [show (8 : Int64) = lN 8 from rfl]
      by_cases hq : 8 < gH g1 + 1
      · rw [if_pos ((lN_lt (by omega) (by omega)).mpr hq), Nat.min_eq_left (by omega)]
      · rw [if_neg (fun z => hq ((lN_lt (by omega) (by omega)).mp z)), Nat.min_eq_right (by omega)]
    rw [e2, uL_rL, uL_rL]
  · have e4 : gI (uI τ 26 (15 + 6 * c + (1 + 3)) (gI τ 26 (15 + 6 * c + (1 + 3)) + (1 : Int64).toInt32)) 26 4 = nI (gH g1) := q1.2.2.2.2.2.1.1.2.2.2.2
    unfold M_X9_shuts
    rw [show (4 : Int32) = nI 4 from rfl, m_adds (by omega) (by decide), bnd1_some, m_sh]
    simp only [bnd1_some, un1, lt_eq]
    rw [chk_pos (by decide), chk_pos (by decide), chk_pos (by decide), chk_pos (by decide), show ix (5 : Int32) = 5 from rfl, show ix (nI 4) = 4 from rfl]
    have e : gI (uI (rI (uI τ 26 (15 + 6 * c + 4) (gI τ 26 (15 + 6 * c + 4) + 1)) 26 (shN ((uI τ 26 (15 + 6 * c + 4) (gI τ 26 (15 + 6 * c + 4) + 1)).1 26) 5 0)) 26 5 (nI c)) 26 4 = nI (gH g1) := by
      rw [gI_uI, if_neg (by decide), gI_rI, if_pos rfl]
      exact e4
    rw [e, show (8 : Int32) = nI 8 from rfl]
    by_cases hq : 8 ≤ gH g1
    · rw [if_pos ((nI_leI (by omega) (by omega)).mpr hq), Nat.min_eq_left (by omega), ← uI_rI, ← uI_rI, show nI 8 = nI (gH g1) by rw [show gH g1 = 8 by omega], ← e]
      exact congrArg some uI_self.symm
    · rw [if_neg (fun z => hq ((nI_leI (by omega) (by omega)).mp z)), Nat.min_eq_right (by omega), nI_1, uI_rI, uI_rI]
      rfl
  · exact if_pos rfl
  · show (if 36 = 5 then lN (min 8 (gH g1 + 1)) else if 36 = 36 then lN c else _) = _
    rw [if_neg (by decide), if_pos rfl]
  · show (if 36 + k = 5 then _ else if 36 + k = 36 then _ else shN _ 36 0 (36 + k)) = _
    rw [if_neg (by omega), if_neg (by omega)]
    unfold shN
    rw [if_pos (by omega), show 36 + k - 1 = 36 + (k - 1) by omega]
  · show (if j = 5 then _ else if j = 36 then _ else shN _ 36 0 j) = _
    rw [if_neg (by omega), if_neg (by omega)]
    unfold shN
    rw [if_neg (by omega)]
  · exact if_pos rfl
  · show (if 5 = 4 then nI (min 8 (gH g1 + 1)) else if 5 = 5 then nI c else _) = _
    rw [if_neg (by decide), if_pos rfl]
  · show (if 5 + k = 4 then _ else if 5 + k = 5 then _ else shN _ 5 0 (5 + k)) = _
    rw [if_neg (by omega), if_neg (by omega)]
    unfold shN
    rw [if_pos (by omega), show 5 + k - 1 = 5 + (k - 1) by omega]
  · show (if j = 4 then _ else if j = 5 then _ else shN _ 5 0 j) = _
    rw [if_neg (by omega), if_neg (by omega)]
    unfold shN
    rw [if_neg (by omega)]
  · refine Eq.trans ?_ (q2 a x y)
    show (if a = 5 then _ else if a = 4 then _ else g1.1 a x y) = _
    rw [if_neg h5, if_neg h4]
theorem Mid.refuseX {T : Td} {g0 g : Gs} {σ1 τ0 σ τ : Wd} {s : Nat} (h : Mid T g0 σ1 τ0 g σ τ) (hs : s < 4) : ∃ g' σ' τ', g' = uV g 5 s (iRf g s + 1) ∧ M_X1_refuse σ (nI s) = some σ' ∧ M_X9_refused τ (nI s) = some (-2, τ') ∧ Mid T g0 σ1 τ0 g' σ' τ' ∧ (∀ a x y, g'.1 a x y = g.1 a x y) ∧ (∀ w, iX g' w = iX g w) := by
  have hI := h.2.2.2.2.2.2.1
  have hH := hI.1.2.2.2.1
  have hW := hI.1.1
  have hO := hI.1.2.1
  have e1 : (gL σ 29 (48 + s)).toInt32 = iRf g s := (h.2.2.2.1.2.2.2 s hs).2.1
  have e2 : gI τ 26 (50 + 14 * s + 1) = iRf g s := (h.2.2.2.2.2.1.2.2.2.1 s hs).2.1
  have ec : ∀ j c v, iC (uV g 5 s v) j c = if j = 4 ∧ c = s then v else iC g j c := fun j c v => by
    by_cases hh : j = 4 ∧ c = s
    · rw [if_pos hh]; exact if_pos ⟨by omega, hh.2⟩
    · rw [if_neg hh]; exact uV_o (by omega)
  refine ⟨uV g 5 s (iRf g s + 1), uL σ 29 (48 + s) (gL σ 29 (48 + s) + 1), uI τ 26 (50 + 14 * s + 1) (iRf g s + 1), rfl, ?_, ?_, h.up ?_ ?_ ?_ ?_ ?_ rfl rfl (fun q => q), fun a x y => rfl, fun w => rfl⟩
  · unfold M_X1_refuse
    rw [show (48 : Int32) = nI 48 from rfl, nI_add, chk_pos ((ib_nI (by omega)).mpr (by omega)), chk_pos ((ib_nI (by omega)).mpr (by omega)), ix_nI (by omega)]
    rfl
  · unfold M_X9_refused
    rw [b50, show nI (50 + 14 * s) + 1 = nI (50 + 14 * s + 1) from nI_1 _, chk_pos ((ib_nI (by omega)).mpr (by omega)), chk_pos ((ib_nI (by omega)).mpr (by omega)), ix_nI (by omega), e2]
    rfl
  · refine ⟨by omega, by omega, by omega, by omega, by omega, by omega, by intro k hk e; have : k < 8 := Nat.lt_of_lt_of_le hk hH; omega, fun c hc => ⟨by omega, by omega, by omega, by omega, by omega, by omega⟩, fun s' hs' => ⟨by omega, fun e => ?_, by omega, fun o ho => ⟨by omega, by omega⟩⟩⟩
    obtain rfl : s' = s := by omega
    rw [Int64.toInt32_add, e1]
    exact (uV_s (g := g) (t := 5)).symm
  · intro j x hj q
    obtain ⟨q1, q2, q3, q4, q5, q6, q7, q8, q9⟩ := q
    refine ⟨q1, q2, q3, q4, q5, q6, q7, q8, fun s' hs' => ⟨(q9 s' hs').1, fun e => ?_, (q9 s' hs').2.2⟩⟩
    rw [show iRf (uV g 5 s (iRf g s + 1)) s' = iRf g s' from uV_o (by omega)]
    exact (q9 s' hs').2.1 e
  · refine ⟨by omega, by omega, by omega, by omega, by omega, by intro k hk e; have : k < 8 := Nat.lt_of_lt_of_le hk hH; omega, fun c hc => ⟨by omega, fun i hi e => by omega⟩, fun s' hs' => ⟨by omega, fun e => ?_, by omega, fun o ho => ⟨by omega, by omega⟩⟩, fun w hw => ⟨by omega, by omega, by omega, by omega, by omega⟩, fun i hi => ⟨by omega, by omega⟩, fun c w hc hw e => by omega⟩
    obtain rfl : s' = s := by omega
    exact (uV_s (g := g) (t := 5)).symm
  · intro j x hj q
    obtain ⟨q1, q2, q3, q4, q5, q6, q7, q8, q9, q10, q11⟩ := q
    refine ⟨q1, q2, q3, q4, q5, q6, fun c hc => ⟨(q7 c hc).1, fun i hi e => ?_⟩, fun s' hs' => ⟨(q8 s' hs').1, fun e => ?_, (q8 s' hs').2.2⟩, q9, q10, q11⟩
    · rw [ec, if_neg (by omega)]; exact (q7 c hc).2 i hi e
    · rw [show iRf (uV g 5 s (iRf g s + 1)) s' = iRf g s' from uV_o (by omega)]
      exact (q8 s' hs').2.1 e
  · obtain ⟨i1, i2, i3, i4, i5, i6, i7, i8, i9, i10, i11, i12, i13, i14⟩ := hI
    exact ⟨i1, i2, i3, i4, i5, i6, i7, i8, i9, i10, i11, i12, fun j c hj z1 z2 => by rw [ec, if_neg (by omega)]; exact i13 j c hj z1 z2, i14⟩
theorem Mid.joinX {T : Td} {g0 g : Gs} {σ1 τ0 σ τ : Wd} {a b : Nat} (h : Mid T g0 σ1 τ0 g σ τ) (ha : a < tN T) (hb : b < tN T) : ∃ g', g' = uG (uA g a b) 6 b 0 (max (gK g b) (gK g a)) ∧ Mid T g0 σ1 τ0 g' (uL (uL σ 29 (6 + b) (gL σ 29 (6 + b) ||| gL σ 29 (6 + a))) 29 (11 + b) (lN (max (gK g b) (gK g a)))) (uI (rI τ 26 (brF g a b (τ.1 26) (gW g))) 26 (15 + 6 * b) (nI (max (gK g b) (gK g a)))) ∧ (∀ c w, gA g' c w = if c = b ∧ gA g a w = 1 then 1 else gA g c w) ∧ gK g' b = max (gK g b) (gK g a) ∧ (∀ c, c ≠ b → gK g' c = gK g c) ∧ (∀ t x y, t ≠ 11 → t ≠ 6 → g'.1 t x y = g.1 t x y) ∧ (∀ w, iX g' w = iX g w) := by
  have hI := h.2.2.2.2.2.2.1
  have hn := hI.1.2.2.2.2.1
  have hm := h.has ha hb
  have ka := hI.2.2.1 a (by omega)
  have kb := hI.2.2.1 b (by omega)
  refine ⟨uG (uA g a b) 6 b 0 (max (gK g b) (gK g a)), rfl, hm.know hb ?_ (fun e => ?_) (fun i hi => ?_), fun c w => ?_, uG_s, fun c hc => uG_o (fun z => hc z.2.1), fun t x y q1 q2 => (uG_o (fun z => q2 z.1)).trans (uA_o q1), fun w => rfl⟩
  · show max (gK g b) (gK g a) ≤ gO g
    omega
  · have hKP : gK g (gP g) = gO g := hI.2.2.2.1
    have e : b = gP g := e
    show max (gK g b) (gK g a) = gO g
    rw [← e] at hKP
    omega
  · rw [uA_A]
    show (if b = b ∧ gA g a (gD g i) = 1 then 1 else gA g b (gD g i)) = 1
    by_cases q : i < gK g a
    · rw [if_pos ⟨rfl, hI.2.2.2.2.2.2.1 a i ha q⟩]
    · by_cases q2 : b = b ∧ gA g a (gD g i) = 1
      · rw [if_pos q2]
      · rw [if_neg q2]; exact hI.2.2.2.2.2.2.1 b i hb (by omega)
  · exact uA_A
theorem Mid.tailX {T : Td} {t l : Nat} {g0 g : Gs} {σ1 τ0 σ τ : Wd} {a b n m : Nat} {f f2 : Nat → Nat} (h : Mid T g0 σ1 τ0 g σ τ) (hT : RText T t l σ1 τ0) (ha : a < tN T) (hb : b < tN T) (hn : n ≤ 60) (hF : ∀ i, i < n → gI σ 35 i = nI (f i) ∧ f i < 60) (hF2 : ∀ i, i < m → gI σ 36 i = nI (f2 i) ∧ f2 i < 60) (h47 : gI τ 0 47 = nI n) (hH : ∀ i, i < n → gI τ 28 i = nI (f i)) (e : lgn g (hsP g b) (gK g b) = m) (e2 : ∀ i, i < m → lgf g (hsP g b) (gK g b) i = f2 i) : ∃ s g' σ' τ', (∃ y, g' = tlG g a b (nI n - nI s) y) ∧ AlS f f2 n m s ∧ M_X1_holdMeeting_J150 σ (nI a) (nI b) (nI n) (nI m) = some (nI n - nI s, σ') ∧ M_X9_meets_J80 τ (nI a) (nI b) = some (nI n - nI s, τ') ∧ Mid T g0 σ1 τ0 g' σ' τ' ∧ (∀ t x y, t ≠ 4 → t ≠ 5 → g'.1 t x y = g.1 t x y) ∧ (∀ w, iX g' w = iX g w) := by
  have hQ := h.qd hT
  obtain ⟨hW, hO, hPn, hn5⟩ := q_bd hQ
  have hI := hQ.2.2.2.2.1
  obtain ⟨G, m1, m2⟩ := m_log (c := b) hQ (by omega)
  have hmW := (lg_facts hI (show b < 5 by omega)).2.2.1
  rw [e] at m1 m2 hmW
  obtain ⟨s, a1, a2⟩ := c_alike (σ := σ) (a := 35) (b := 36) (f := f) (h := f2) hn (show m ≤ 60 by omega) hF hF2
  obtain ⟨s', b1, b2⟩ := m_alike (τ := W27 τ G m) (f := f2) (h := f) W27_45 ((W27_o (Or.inr (by decide)) (by decide)).trans h47) (show m ≤ 60 by omega) hn (fun i hi => ⟨W27_27.trans (by rw [m2 i hi, e2 i hi]), (hF2 i hi).2⟩) (fun i hi => ⟨(W27_o (by omega) (by decide)).trans (hH i hi), (hF i hi).2⟩)
  obtain rfl := AlS_u a1 (AlS_sym b1)
  have hm1 := h.kq (KQ.refl.W27 (F := G) (n := m))
  obtain ⟨g1, f1, q1, q2, q3⟩ := hm1.addX (d := (nI n - nI s).toInt64) (i := 0) hb (by decide)
  obtain ⟨g2, f2x, r1, r2, r3⟩ := q1.addX (d := (nI m - nI s).toInt64) (i := 1) hb (by decide)
  obtain ⟨g3, σ3, τ3, f3, u1, u2, u3, u4, u5⟩ := r1.shutsX ha
  obtain ⟨g4, σ4, τ4, f4, v1, v2, v3, v4, v5⟩ := u3.shutsX hb
  have x3 : gI τ3 0 47 = nI n := by
    obtain ⟨fx, hx⟩ := m_shuts_o (c := a) (by omega) (r1.2.2.2.2.2.1.1.2.2.2.2) (by have := r1.2.2.2.2.2.2.1.1.2.2.2.1; omega)
    rw [u2] at hx
    rw [Option.some.inj hx, gI_rI_n (by decide), gI_uI, if_neg (by omega), gI_uI, if_neg (by omega), W27_o (Or.inr (by decide)) (by decide)]
    exact h47
  have x4 : gI τ4 0 47 = nI n := by
    obtain ⟨fx, hx⟩ := m_shuts_o (c := b) (by omega) (u3.2.2.2.2.2.1.1.2.2.2.2) (by have := u3.2.2.2.2.2.2.1.1.2.2.2.1; omega)
    rw [v2] at hx
    rw [Option.some.inj hx, gI_rI_n (by decide)]
    exact x3
  refine ⟨s, g4, σ4, τ4, ⟨nI m - nI s, by rw [f4, f3, f2x, f1, show (nI n - nI s).toInt64.toInt32 = nI n - nI s by simp, show (nI m - nI s).toInt64.toInt32 = nI m - nI s by simp]; rfl⟩, a1, ?_, ?_, v3, fun t x y h1 h2 => by rw [v4 t x y h1 h2, u4 t x y h1 h2, r2, q2], fun w => by rw [v5, u5, r3, q3]⟩
  · unfold M_X1_holdMeeting_J150
    rw [a2, bnd1_some, show (16 : Int32) + nI b = nI (16 + b) from nI_add 16 b, show (21 : Int32) + nI b = nI (21 + b) from nI_add 21 b, chk_pos ((ib_nI (by omega)).mpr (by omega)), chk_pos ((ib_nI (by omega)).mpr (by omega)), ix_nI (by omega), ix_nI (by omega)]
    simp only [lt_eq]
    rw [chk_pos ((ib_nI (by omega)).mpr (by omega)), chk_pos ((ib_nI (by omega)).mpr (by omega))]
    have u1' : M_X1_closeLog (uL (uL σ 29 (16 + b) (gL σ 29 (16 + b) + (nI n - nI s).toInt64)) 29 (21 + b) (gL (uL σ 29 (16 + b) (gL σ 29 (16 + b) + (nI n - nI s).toInt64)) 29 (21 + b) + (nI m - nI s).toInt64)) (nI a) = some σ3 := u1
    rw [u1', bnd1_some, v1, bnd1_some]
  · have d1 : (nI n - nI s).toInt64.toInt32 = nI n - nI s := by simp
    have d2 : (nI m - nI s).toInt64.toInt32 = nI m - nI s := by simp
    rw [d1, d2] at u2
    unfold M_X9_meets_J80
    rw [m1, bnd1_some, b2, bnd1_some, (show gI (W27 τ G m) 0 47 = nI n from (W27_o (Or.inr (by decide)) (by decide)).trans h47), show (1 : Int32) = nI 1 from rfl, m_adds (by omega) (by decide), bnd1_some, show gI (uI (W27 τ G m) 26 (15 + 6 * b + 1) (gI (W27 τ G m) 26 (15 + 6 * b + 1) + (nI n - nI s))) 0 45 = nI m from (by rw [gI_uI, if_neg (by omega)]; exact W27_45), show (2 : Int32) = nI 2 from rfl, m_adds (by omega) (by decide), bnd1_some]
    have u2' : M_X9_shuts (uI (uI (W27 τ G m) 26 (15 + 6 * b + 1) (gI (W27 τ G m) 26 (15 + 6 * b + 1) + (nI n - nI s))) 26 (15 + 6 * b + 2) (gI (uI (W27 τ G m) 26 (15 + 6 * b + 1) (gI (W27 τ G m) 26 (15 + 6 * b + 1) + (nI n - nI s))) 26 (15 + 6 * b + 2) + (nI m - nI s))) (nI a) = some τ3 := u2
    rw [u2', bnd1_some, v2, bnd1_some, x4]
set_option maxHeartbeats 4000000 in
theorem Mid.meetX {T : Td} {t l : Nat} {g0 g : Gs} {σ1 τ0 σ τ : Wd} {a b : Nat} (h : Mid T g0 σ1 τ0 g σ τ) (hT : RText T t l σ1 τ0) (ha : a < tN T) (hb : b < tN T) (hab : a ≠ b) : ∃ s g' σ' τ', AlS (lgf g (hsP g b) (gK g b)) (lgf g (unP g a b) (max (gK g b) (gK g a))) (lgn g (hsP g b) (gK g b)) (lgn g (unP g a b) (max (gK g b) (gK g a))) s ∧ M_X1_holdMeeting σ (nI a) (nI b) = some (nI (lgn g (hsP g b) (gK g b)) - nI s, σ') ∧ M_X9_meets τ (nI a) (nI b) = some (nI (lgn g (hsP g b) (gK g b)) - nI s, τ') ∧ Mid T g0 σ1 τ0 g' σ' τ' ∧ MeetS g a b g' ∧ MtX g a b s g' := by
  have hn5 := h.2.2.2.2.2.2.1.1.2.2.2.2.1
  obtain ⟨g1, σa, τa, eg1, o1, o2, o3, o4, o5⟩ := h.opensX hb
  obtain ⟨g2, σb, τb, eg2, p1, p2, p3, p4, p5⟩ := o3.opensX ha
  have E : ∀ t x y, g2.1 t x y = g.1 t x y := fun t x y => by rw [p4, o4]
  have hQ := p3.qd hT
  obtain ⟨hW, hO, hPn, _⟩ := q_bd hQ
  have hI := hQ.2.2.2.2.1
  have eL : lgf g2 (hsP g2 b) (gK g2 b) = lgf g (hsP g b) (gK g b) ∧ lgn g2 (hsP g2 b) (gK g2 b) = lgn g (hsP g b) (gK g b) := by
    rw [show gK g2 b = gK g b from E _ _ _]
    exact lg_cong (fun x => E _ _ _) (fun x => E _ _ _) (fun x => E _ _ _) (E _ _ _) (fun w _ => by show decide (gA g2 b w = 1) = decide (gA g b w = 1); rw [show gA g2 b w = gA g b w from E _ _ _])
  have lf := lg_facts hI (show b < 5 by omega)
  obtain ⟨F, c1, c2⟩ := c_lay (a := 35) (P := hsP g2 b) hQ (by decide) (hI.2.2.1 b (by omega)) (q_bits hQ (by omega))
  obtain ⟨τ2, τ3, m1, k1, kq, k47, k28⟩ := m_kept (c := b) hQ (by omega)
  have hm3 := (p3.ba (F := F) (Or.inl rfl)).kq kq
  have hQ3 := hm3.qd hT
  have b1 := m_brings hQ3 (show a < 5 by omega) (show b < 5 by omega) hab
  have b2 := c_brings hQ3 (show a < 5 by omega) (show b < 5 by omega)
  obtain ⟨g5, eg5, j1, j2, j3, j4, j5, j6⟩ := hm3.joinX ha hb
  have eg52 : g5.2 = g2.2 := by rw [eg5]; rfl
  have hQ5 := j1.qd hT
  have hI5 := hQ5.2.2.2.2.1
  obtain ⟨F2, d1, d2⟩ := c_lay (a := 36) (P := hsP g5 b) hQ5 (by decide) (hI5.2.2.1 b (by omega)) (q_bits hQ5 (by omega))
  have lf5 := lg_facts hI5 (show b < 5 by omega)
  have hW5 : gW g5 = gW g2 := j5 _ _ _ (by decide) (by decide)
  have hO5 : gO g5 = gO g2 := j5 _ _ _ (by decide) (by decide)
  have hP5 : gP g5 = gP g2 := j5 _ _ _ (by decide) (by decide)
  have hm6 := j1.ba (F := F2) (Or.inr rfl)
  have eU : lgf g5 (hsP g5 b) (gK g5 b) = lgf g (unP g a b) (max (gK g b) (gK g a)) ∧ lgn g5 (hsP g5 b) (gK g5 b) = lgn g (unP g a b) (max (gK g b) (gK g a)) := by
    rw [j3, show gK g2 b = gK g b from E _ _ _, show gK g2 a = gK g a from E _ _ _]
    refine lg_cong (fun x => (j5 _ _ _ (by decide) (by decide)).trans (E _ _ _)) (fun x => (j5 _ _ _ (by decide) (by decide)).trans (E _ _ _)) (fun x => (j5 _ _ _ (by decide) (by decide)).trans (E _ _ _)) ((j5 _ _ _ (by decide) (by decide)).trans (E _ _ _)) (fun w _ => ?_)
    show decide (gA g5 b w = 1) = (decide (gA g a w = 1) || decide (gA g b w = 1))
    rw [j2, show gA g2 a w = gA g a w from E _ _ _, show gA g2 b w = gA g b w from E _ _ _]
    by_cases q : gA g a w = 1
    · rw [if_pos ⟨rfl, q⟩]; simp [q]
    · rw [if_neg (fun z => q z.2)]; simp [q]
  have hlk : lkN g2 a b (gW g2) = lkN g a b (gW g) := by
    rw [show gW g2 = gW g from E _ _ _]
    have : ∀ k, lkN g2 a b k = lkN g a b k := by
      intro k
      induction k with
      | zero => rfl
      | succ k ih =>
        show (if gA g2 a k = 1 ∧ gA g2 b k ≠ 1 then lkN g2 a b k + 1 else lkN g2 a b k) = (if gA g a k = 1 ∧ gA g b k ≠ 1 then lkN g a b k + 1 else lkN g a b k)
        rw [ih, show gA g2 a k = gA g a k from E _ _ _, show gA g2 b k = gA g b k from E _ _ _]
    exact this _
  -- the end, with the order given or not
  have fin : ∃ s g' σ' τ' , AlS (lgf g2 (hsP g2 b) (gK g2 b)) (lgf g5 (hsP g5 b) (gK g5 b)) (lgn g2 (hsP g2 b) (gK g2 b)) (lgn g5 (hsP g5 b) (gK g5 b)) s ∧ (∀ t0 : Int32, t0 = (if lkN g2 a b (gW g2) = 0 then 0 else 1) → M_X1_holdMeeting_J54 (rI σb 35 F) (nI a) (nI b) (nI (lgn g2 (hsP g2 b) (gK g2 b))) t0 = some (nI (lgn g2 (hsP g2 b) (gK g2 b)) - nI s, σ') ∧ M_X9_meets_J61 (uI (rI τ3 26 (brF g2 a b (τ3.1 26) (gW g2))) 26 (15 + 6 * b) (nI (max (gK g2 b) (gK g2 a)))) (nI a) (nI b) t0 = some (nI (lgn g2 (hsP g2 b) (gK g2 b)) - nI s, τ')) ∧ Mid T g0 σ1 τ0 g' σ' τ' ∧ MeetS g2 a b g' ∧ MtY g2 a b s g' := by
    have hF : ∀ i, i < lgn g2 (hsP g2 b) (gK g2 b) → F i = nI (lgf g2 (hsP g2 b) (gK g2 b) i) ∧ lgf g2 (hsP g2 b) (gK g2 b) i < 60 := fun i hi => ⟨c2 i hi, by have := lf.1 i hi; omega⟩
    have hF2 : ∀ i, i < lgn g5 (hsP g5 b) (gK g5 b) → F2 i = nI (lgf g5 (hsP g5 b) (gK g5 b) i) ∧ lgf g5 (hsP g5 b) (gK g5 b) i < 60 := fun i hi => ⟨d2 i hi, by have := lf5.1 i hi; omega⟩
    have hN60 : lgn g2 (hsP g2 b) (gK g2 b) ≤ 60 := by have := lf.2.2.1; omega
    -- the class's first half
    have e54 : ∀ t0, M_X1_holdMeeting_J54 (rI σb 35 F) (nI a) (nI b) (nI (lgn g2 (hsP g2 b) (gK g2 b))) t0 = (if nI b ≠ nI (gP g5) then M_X1_holdMeeting_J150 (rI (uL (uL (rI σb 35 F) 29 (6 + b) (gL (rI σb 35 F) 29 (6 + b) ||| gL (rI σb 35 F) 29 (6 + a))) 29 (11 + b) (lN (max (gK g2 b) (gK g2 a)))) 36 F2) (nI a) (nI b) (nI (lgn g2 (hsP g2 b) (gK g2 b))) (nI (lgn g5 (hsP g5 b) (gK g5 b))) else if t0 = 0 then M_X1_holdMeeting_J150 (rI (uL (uL (rI σb 35 F) 29 (6 + b) (gL (rI σb 35 F) 29 (6 + b) ||| gL (rI σb 35 F) 29 (6 + a))) 29 (11 + b) (lN (max (gK g2 b) (gK g2 a)))) 36 F2) (nI a) (nI b) (nI (lgn g2 (hsP g2 b) (gK g2 b))) (nI (lgn g5 (hsP g5 b) (gK g5 b))) else bnd1 (M_X1_giveOrder (rI (uL (uL (rI σb 35 F) 29 (6 + b) (gL (rI σb 35 F) 29 (6 + b) ||| gL (rI σb 35 F) 29 (6 + a))) 29 (11 + b) (lN (max (gK g2 b) (gK g2 a)))) 36 F2) 36 60 (nI (lgn g5 (hsP g5 b) (gK g5 b)))) fun s_147 => M_X1_holdMeeting_J150 s_147 (nI a) (nI b) (nI (lgn g2 (hsP g2 b) (gK g2 b))) (nI (lgn g5 (hsP g5 b) (gK g5 b)))) := fun t0 => by
      have kA : gL (uL (rI σb 35 F) 29 (6 + b) (gL (rI σb 35 F) 29 (6 + b) ||| gL (rI σb 35 F) 29 (6 + a))) 29 (11 + a) = lN (gK g2 a) := by rw [gL_uL, if_neg (by omega)]; exact (hQ3.2.1.2.2.1 a (by omega)).2.1
      have kB : gL (uL (rI σb 35 F) 29 (6 + b) (gL (rI σb 35 F) 29 (6 + b) ||| gL (rI σb 35 F) 29 (6 + a))) 29 (11 + b) = lN (gK g2 b) := by rw [gL_uL, if_neg (by omega)]; exact (hQ3.2.1.2.2.1 b (by omega)).2.1
      have hka := hI.2.2.1 a (by omega)
      have hkb := hI.2.2.1 b (by omega)
      have eM : (if lN (gK g2 a) < lN (gK g2 b) then lN (gK g2 b) else lN (gK g2 a)) = lN (max (gK g2 b) (gK g2 a)) := by
        by_cases q : gK g2 a < gK g2 b
        · rw [if_pos ((lN_lt (by omega) (by omega)).mpr q), Nat.max_eq_left (by omega)]
        · rw [if_neg (fun z => q ((lN_lt (by omega) (by omega)).mp z)), Nat.max_eq_right (by omega)]
      unfold M_X1_holdMeeting_J54
      rw [show (6 : Int32) + nI b = nI (6 + b) from nI_add 6 b, show (6 : Int32) + nI a = nI (6 + a) from nI_add 6 a, show (11 : Int32) + nI a = nI (11 + a) from nI_add 11 a, show (11 : Int32) + nI b = nI (11 + b) from nI_add 11 b, chk_pos ((ib_nI (by omega)).mpr (by omega)), chk_pos ((ib_nI (by omega)).mpr (by omega)), chk_pos ((ib_nI (by omega)).mpr (by omega)), ix_nI (show 6 + b < 2 ^ 31 by omega), ix_nI (show 6 + a < 2 ^ 31 by omega), ix_nI (show 11 + a < 2 ^ 31 by omega), ix_nI (show 11 + b < 2 ^ 31 by omega)]
      simp only [lt_eq]
      rw [chk_pos ((ib_nI (by omega)).mpr (by omega)), chk_pos ((ib_nI (by omega)).mpr (by omega)), chk_pos ((ib_nI (by omega)).mpr (by omega))]
      rw [kA, kB, eM, c_setOf (by omega), bnd1_some, (q_known hQ5 (show b < 5 by omega)).1, bnd1_some, d1, bnd2_some, show M_X1_primary (rI (uL (uL (rI σb 35 F) 29 (6 + b) (gL (rI σb 35 F) 29 (6 + b) ||| gL (rI σb 35 F) 29 (6 + a))) 29 (11 + b) (lN (max (gK g2 b) (gK g2 a)))) 36 F2) = some (nI (gP g5)) from c_primary (hQ5.2.1.1.2.1), bnd1_some]
      rfl
    have e61 : ∀ t0 τ, τ.1 26 2 = nI (gP g5) → M_X9_meets_J61 τ (nI a) (nI b) t0 = if t0 = 0 then M_X9_meets_J80 τ (nI a) (nI b) else if nI b ≠ nI (gP g5) then M_X9_meets_J80 τ (nI a) (nI b) else bnd1 (M_X9_gives τ (nI b)) fun s_77 => M_X9_meets_J80 s_77 (nI a) (nI b) := fun t0 τ hτ => by
      unfold M_X9_meets_J61
      rw [chk_pos (by decide), show gI τ 26 (ix (2 : Int32)) = nI (gP g5) from hτ]
    have h47 : ∀ r, gI (uI (rI τ3 26 r) 26 (15 + 6 * b) (nI (max (gK g2 b) (gK g2 a)))) 0 47 = nI (lgn g2 (hsP g2 b) (gK g2 b)) := fun r => by
      rw [gI_uI, if_neg (by omega), gI_rI_n (by decide)]
      exact k47
    have h28 : ∀ r i, i < lgn g2 (hsP g2 b) (gK g2 b) → gI (uI (rI τ3 26 r) 26 (15 + 6 * b) (nI (max (gK g2 b) (gK g2 a)))) 28 i = nI (lgf g2 (hsP g2 b) (gK g2 b) i) := fun r i hi => by
      rw [gI_uI, if_neg (by omega), gI_rI_n (by decide)]
      exact k28 i hi
    by_cases hg : b = gP g2 ∧ lkN g2 a b (gW g2) ≠ 0
    · have hbP : gP g5 = b := hP5.trans hg.1.symm
      have hKO : gK g5 b = gO g5 := by have := hI5.2.2.2.1; rwa [hbP] at this
      obtain ⟨v1, v2, σ7, τ7, u1, u2, u3, u4, u5, u6, u7⟩ := hm6.give hT (by rw [hbP, ← hKO]; exact fun i hi => gI_rI_s.trans (d2 i hi))
      rw [hbP, ← hKO] at v1 v2 u1 u3
      rw [hbP] at u2
      have hK7 : ∀ c, gK (uG (oG g5 (lgf g5 (hsP g5 b) (gK g5 b)) (lgn g5 (hsP g5 b) (gK g5 b))) 6 b 0 (lgn g5 (hsP g5 b) (gK g5 b))) c = if c = b then lgn g5 (hsP g5 b) (gK g5 b) else gK g5 c := fun c => by
        by_cases q : c = b
        · rw [if_pos q, q]; exact uG_s
        · rw [if_neg q]; exact (uG_o (fun z => q z.2.1)).trans (oG_o (by decide) (by decide))
      have aft := lg_after (g' := uG (oG g5 (lgf g5 (hsP g5 b) (gK g5 b)) (lgn g5 (hsP g5 b) (gK g5 b))) 6 b 0 (lgn g5 (hsP g5 b) (gK g5 b))) hI5 (show b < 5 by omega) rfl (fun w => rfl) (fun i hi => rfl)
      have eKb : gK (uG (oG g5 (lgf g5 (hsP g5 b) (gK g5 b)) (lgn g5 (hsP g5 b) (gK g5 b))) 6 b 0 (lgn g5 (hsP g5 b) (gK g5 b))) b = lgn g5 (hsP g5 b) (gK g5 b) := by rw [hK7, if_pos rfl]
      obtain ⟨s, g', σ', τ', ⟨yy, t0e⟩, t1, t2, t3, t4, t5, t6⟩ := u3.tailX (n := lgn g2 (hsP g2 b) (gK g2 b)) (m := lgn g5 (hsP g5 b) (gK g5 b)) (f := lgf g2 (hsP g2 b) (gK g2 b)) (f2 := lgf g5 (hsP g5 b) (gK g5 b)) hT ha hb hN60 (fun i hi => ⟨by
        show σ7.1 35 i = _
        rw [u4, rI_ne (by decide)]
        show gI (rI σb 35 F) 35 i = _
        exact gI_rI_s.trans (hF i hi).1, (hF i hi).2⟩) (fun i hi => ⟨by
        show σ7.1 36 i = _
        rw [u5, rI_at]
        exact (hF2 i hi).1, (hF2 i hi).2⟩) (u6.trans (h47 _)) (fun i hi => by
        show τ7.1 28 i = _
        rw [u7]
        exact h28 _ i hi) (by rw [eKb]; exact aft.1) (fun i hi => by rw [eKb]; exact aft.2 i hi)
      refine ⟨s, g', σ', τ', t1, fun t0 ht0 => ?_, t4, ?_, ⟨uG (oG g5 (lgf g5 (hsP g5 b) (gK g5 b)) (lgn g5 (hsP g5 b) (gK g5 b))) 6 b 0 (lgn g5 (hsP g5 b) (gK g5 b)), yy, fun t x y q1 q2 q3 q4 => ((uG_o (fun z => q2 z.1)).trans (oG_o q3 q4)).trans (j5 t x y q1 q2), eg52, fun i hi => ?_, t0e⟩⟩
      · rw [if_neg hg.2] at ht0
        subst ht0
        refine ⟨?_, ?_⟩
        · rw [e54, if_neg (fun z => z (by rw [hbP])), if_neg n10, u1, bnd1_some, t2]
        · rw [e61 _ _ (j1.2.2.2.2.2.1.1.2.2.1), if_neg n10, if_neg (fun z => z (by rw [hbP])), u2, bnd1_some, t3]
      · refine ⟨(t5 _ _ _ (by decide) (by decide)).trans hW5, (t5 _ _ _ (by decide) (by decide)).trans hP5, (t5 _ _ _ (by decide) (by decide)).trans (j5 _ _ _ (by decide) (by decide)), fun c w => (t5 _ _ _ (by decide) (by decide)).trans (j2 c w), fun c hc => ?_, ?_⟩
        · exact (t5 _ _ _ (by decide) (by decide)).trans ((hK7 c).trans ((if_neg hc).trans (j4 c hc)))
        · rw [if_pos hg]
          have e1 : gK g' b = lgn g5 (hsP g5 b) (gK g5 b) := (t5 _ _ _ (by decide) (by decide)).trans eKb
          have e2 : gO g' = lgn g5 (hsP g5 b) (gK g5 b) := t5 _ _ _ (by decide) (by decide)
          refine ⟨by rw [e1, e2], ?_⟩
          rw [e1]
          refine (cnN_bij (P := hsP g' b) (gW g2) _ (lgf g5 (hsP g5 b) (gK g5 b)) (fun i hi => ⟨by rw [← hW5]; exact lf5.1 i hi, ?_⟩) lf5.2.1 (fun w hw hw2 => ?_)).symm
          · show decide (gA g' b _ = 1) = true
            rw [show gA g' b (lgf g5 (hsP g5 b) (gK g5 b) i) = gA g5 b (lgf g5 (hsP g5 b) (gK g5 b) i) from t5 _ _ _ (by decide) (by decide), lf5.2.2.2.1 i hi]
            rfl
          · have hw2 : decide (gA g' b w = 1) = true := hw2
            rw [show gA g' b w = gA g5 b w from t5 _ _ _ (by decide) (by decide)] at hw2
            exact lf5.2.2.2.2 w (by rw [hW5]; exact hw) (by simpa using hw2)
      · have li := lg_inv (R := lgR g5 (hsP g5 b) (gK g5 b)) (g := g5) (k := gK g5 b) (gW g5)
        have e1 : lgf g5 (hsP g5 b) (gK g5 b) i = gD g5 i := li.2.1 i (by rw [hKO, hO5]; exact hi)
        exact (show gD (uG (oG g5 (lgf g5 (hsP g5 b) (gK g5 b)) (lgn g5 (hsP g5 b) (gK g5 b))) 6 b 0 (lgn g5 (hsP g5 b) (gK g5 b))) i = lgf g5 (hsP g5 b) (gK g5 b) i from (uG_o (by omega)).trans rfl).trans (e1.trans (j5 _ _ _ (by decide) (by decide)))
    · obtain ⟨s, g', σ', τ', ⟨yy, t0e⟩, t1, t2, t3, t4, t5, t6⟩ := hm6.tailX (n := lgn g2 (hsP g2 b) (gK g2 b)) (m := lgn g5 (hsP g5 b) (gK g5 b)) (f := lgf g2 (hsP g2 b) (gK g2 b)) (f2 := lgf g5 (hsP g5 b) (gK g5 b)) hT ha hb hN60 (fun i hi => ⟨by
        rw [gI_rI_n (by decide)]
        show gI (rI σb 35 F) 35 i = _
        exact gI_rI_s.trans (hF i hi).1, (hF i hi).2⟩) (fun i hi => ⟨gI_rI_s.trans (hF2 i hi).1, (hF2 i hi).2⟩) (h47 _) (fun i hi => h28 _ i hi) rfl (fun i hi => rfl)
      refine ⟨s, g', σ', τ', t1, fun t0 ht0 => ?_, t4, ?_, ⟨g5, yy, fun t x y q1 q2 q3 q4 => j5 t x y q1 q2, eg52, fun i hi => j5 _ _ _ (by decide) (by decide), t0e⟩⟩
      · have hP60 : gP g5 < 2 ^ 31 := by rw [hP5]; omega
        refine ⟨?_, ?_⟩
        · rw [e54]
          by_cases q : b = gP g2
          · have q2 : lkN g2 a b (gW g2) = 0 := Classical.byContradiction fun z => hg ⟨q, z⟩
            rw [if_pos q2] at ht0
            rw [if_neg (fun z => z (by rw [hP5, ← q])), if_pos ht0, t2]
          · rw [if_pos (show nI b ≠ nI (gP g5) from fun z => q (by rw [← hP5]; exact (nI_eq (by omega) hP60).mp z)), t2]
        · rw [e61 _ _ (j1.2.2.2.2.2.1.1.2.2.1)]
          by_cases q2 : lkN g2 a b (gW g2) = 0
          · rw [if_pos q2] at ht0
            rw [if_pos ht0, t3]
          · have q : ¬ b = gP g2 := fun z => hg ⟨z, q2⟩
            rw [if_neg q2] at ht0
            rw [ht0, if_neg n10, if_pos (show nI b ≠ nI (gP g5) from fun z => q (by rw [← hP5]; exact (nI_eq (by omega) hP60).mp z)), t3]
      · refine ⟨(t5 _ _ _ (by decide) (by decide)).trans hW5, (t5 _ _ _ (by decide) (by decide)).trans hP5, (t5 _ _ _ (by decide) (by decide)).trans (j5 _ _ _ (by decide) (by decide)), fun c w => (t5 _ _ _ (by decide) (by decide)).trans (j2 c w), fun c hc => (t5 _ _ _ (by decide) (by decide)).trans (j4 c hc), ?_⟩
        rw [if_neg hg]
        exact ⟨(t5 _ _ _ (by decide) (by decide)).trans hO5, (t5 _ _ _ (by decide) (by decide)).trans j3⟩
  obtain ⟨s, g', σ', τ', z1, z2, z3, z4, z5⟩ := fin
  obtain ⟨y1, y2⟩ := z2 _ rfl
  rw [eL.1, eL.2, eU.1, eU.2] at z1
  refine ⟨s, g', σ', τ', z1, ?_, ?_, z3, ?_, ?_⟩
  · unfold M_X1_holdMeeting
    rw [o1, bnd1_some, p1, bnd1_some, c_setOf (by omega), bnd1_some, (q_known hQ (show b < 5 by omega)).1, bnd1_some, c1, bnd2_some, c_setOf (by omega), bnd1_some, c_setOf (by omega), bnd1_some]
    rw [← eL.2]
    by_cases q : lkN g2 a b (gW g2) = 0
    · rw [if_pos q] at y1
      rw [if_pos (b2.mpr q)]
      exact y1
    · rw [if_neg q] at y1
      rw [if_neg (fun z => q (b2.mp z))]
      exact y1
  · unfold M_X9_meets
    rw [o2, bnd1_some, p2, bnd1_some, m1, bnd1_some, k1, bnd1_some, b1, bnd2_some]
    have hQ4 := (hm3.has ha hb).qd hT
    have hka := hI.2.2.1 a (by omega)
    have hkb := hI.2.2.1 b (by omega)
    rw [show M_X9_ofCopy _ (nI a) 0 = some (nI (gK g2 a)) from (q_known hQ4 (show a < 5 by omega)).2, bnd1_some, show M_X9_ofCopy _ (nI b) 0 = some (nI (gK g2 b)) from (q_known hQ4 (show b < 5 by omega)).2, bnd1_some, bnd1_some]
    rw [← eL.2]
    by_cases q : gK g2 a ≤ gK g2 b
    · rw [if_pos ((nI_leI (by omega) (by omega)).mpr q)]
      rw [Nat.max_eq_left q] at y2
      have e0 := (hQ4.2.2.2.1.2.2.1 b (by omega)).1
      have e0 : gI (rI τ3 26 (brF g2 a b (τ3.1 26) (gW g2))) 26 (15 + 6 * b) = nI (gK g2 b) := e0
      rw [← e0, uI_self] at y2
      exact y2
    · rw [if_neg (fun z => q ((nI_leI (by omega) (by omega)).mp z)), show (15 : Int32) + 6 * nI b + 0 = nI (15 + 6 * b) by rw [show (15 : Int32) = nI 15 from rfl, show (6 : Int32) = nI 6 from rfl, pk_mul, nI_add]; exact nI_add _ 0, chk_pos ((ib_nI (by omega)).mpr (by omega)), ix_nI (by omega)]
      simp only [lt_eq]
      rw [Nat.max_eq_right (by omega)] at y2
      exact y2
  · obtain ⟨w1, w2, w3, w4, w5, w6⟩ := z4
    refine ⟨w1.trans (E _ _ _), w2.trans (E _ _ _), w3.trans (E _ _ _), fun c w => ?_, fun c hc => (w5 c hc).trans (E _ _ _), ?_⟩
    · rw [w4, show gA g2 a w = gA g a w from E _ _ _, show gA g2 c w = gA g c w from E _ _ _]
    · rw [hlk, show gP g2 = gP g from E _ _ _, show gW g2 = gW g from E _ _ _, show gO g2 = gO g from E _ _ _, show gK g2 b = gK g b from E _ _ _, show gK g2 a = gK g a from E _ _ _] at w6
      exact w6
  · obtain ⟨g7, yy, w1, w2, w3, w4⟩ := z5
    refine ⟨g7, yy, fun t x y q1 q2 q3 q4 => (w1 t x y q1 q2 q3 q4).trans (E t x y), by rw [w2, eg2, eg1], fun i hi => (w3 i (by rw [show gO g2 = gO g from E _ _ _]; exact hi)).trans (E _ _ _), ?_⟩
    rw [w4, eL.2]
theorem Mid.chanceX {T : Td} {t l : Nat} {g0 g : Gs} {σ1 τ0 σ τ : Wd} {S : Int32} (h : Mid T g0 σ1 τ0 g σ τ) (hT : RText T t l σ1 τ0) (hS : gI τ0 0 43 = S) : ∃ g' σ' τ', M_X9_meetsByChance τ = some τ' ∧ Mid T g0 σ1 τ0 g' σ' τ' ∧ gC g' = gC g + 1 ∧ (tN T ≤ 1 → g' = uG g 3 0 0 (gC g + 1)) ∧ (2 ≤ tN T → ∃ a b, a < tN T ∧ b < tN T ∧ a ≠ b ∧ M_X5_giver (nI (tN T)) S (nI (gC g)) = some (nI a) ∧ M_X5_taker (nI a) (nI (tN T)) S (nI (gC g)) = some (nI b) ∧ MeetS (uG g 3 0 0 (gC g + 1)) a b g' ∧ ∃ s, MtX (uG g 3 0 0 (gC g + 1)) a b s g' ∧ s ≤ lgn (uG g 3 0 0 (gC g + 1)) (hsP (uG g 3 0 0 (gC g + 1)) b) (gK (uG g 3 0 0 (gC g + 1)) b)) ∧ (S = nI (tS T) → ∀ v1 v2 : Int32, ¬ v1 ≤ v2 → M_X8_chance_L29 v1 v2 σ = some (.inl (v2 + 1, σ'))) := by
  have hm := h.tick
  have hT2 := RText_mid hm hT
  obtain ⟨ht, h4, hl, h18, hTI, hTC, hTM⟩ := gR_mid hT2
  have hn := hTI.2.1
  have hn1 := hTI.1
  have eC : gL σ 29 4 = lN (gC g) := h.2.2.2.1.1.2.2.2.2.1
  have eM : gI τ 26 3 = nI (gC g) := h.2.2.2.2.2.1.1.2.2.2.1
  have hadd : M_X1_addChance σ = some (uL σ 29 4 (lN (gC g + 1))) := by
    unfold M_X1_addChance
    rw [chk_pos (by decide), chk_pos (by decide), show ix (4 : Int32) = 4 from rfl, eC, lN_1]
    rfl
  have hch : M_X1_chances σ = some (nI (gC g)) := c_chances eC
  have e9 : M_X9_meetsByChance τ = if nI (tN T) ≠ 1 then (bnd1 (M_X9_lotOf (uI τ 26 3 (nI (gC g + 1))) (2 * nI (gC g)) (nI (tN T))) fun r38 => bnd1 (M_X9_lotOf (uI τ 26 3 (nI (gC g + 1))) (2 * nI (gC g) + 1) (nI (tN T) - 1)) fun r54 => chk (¬ nI (tN T) = 0) (bnd2 (M_X9_meets (uI τ 26 3 (nI (gC g + 1))) r38 (((r38 + 1) + r54) - ((r38 + 1) + r54) / nI (tN T) * nI (tN T))) fun r66 s_66 => some s_66)) else some (uI τ 26 3 (nI (gC g + 1))) := by
    unfold M_X9_meetsByChance
    rw [chk_pos (by decide), show ix (3 : Int32) = 3 from rfl, eM]
    simp only [lt_eq]
    rw [chk_pos (by decide), chk_pos (by decide), nI_1, h18, chk_pos ((ib_nI (by omega)).mpr hl), ix_nI (by omega), hTM.1.1]
  have e8 : ∀ v1 v2 : Int32, ¬ v1 ≤ v2 → M_X8_chance_L29 v1 v2 σ = if nI (tN T) ≤ 1 then some (.inl (v2 + 1, uL σ 29 4 (lN (gC g + 1)))) else (bnd1 (M_X5_giver (nI (tN T)) (nI (tS T)) (nI (gC g))) fun r75 => bnd1 (M_X5_taker r75 (nI (tN T)) (nI (tS T)) (nI (gC g))) fun r103 => bnd2 (M_X1_holdMeeting (uL σ 29 4 (lN (gC g + 1))) r75 r103) fun r106 s_106 => some (.inl (v2 + 1, s_106))) := fun v1 v2 hv => by
    unfold M_X8_chance_L29
    rw [if_neg hv, hch, bnd1_some, hadd, bnd1_some, h4, hTC.1.1, hTC.1.2.2.1]
    simp only [lt_eq, chk_pos ht]
  by_cases h2 : 2 ≤ tN T
  · have h43 : gI (uI τ 26 3 (nI (gC g + 1))) 0 43 = S := hm.2.2.1.trans hS
    obtain ⟨a, b, r, ha, hb, hab, w1, w2, w3, w4, w5⟩ := who_meets (m := nI (gC g)) h43 h2 hn
    obtain ⟨s, g', σ', τ', b1, b2, b3, b4, b5, b6⟩ := hm.meetX hT ha hb hab
    refine ⟨g', σ', τ', ?_, b4, b5.2.2.1.trans (uG_s (g := g) (t := 3)), fun z => by omega, fun _ => ⟨a, b, ha, hb, hab, w1, w2, b5, s, b6, b1.1⟩, fun hSS v1 v2 hv => ?_⟩
    · rw [e9, if_pos (show nI (tN T) ≠ 1 from fun z => by have := (nI_eq (b := 1) (by omega) (by decide)).mp z; omega), w3, bnd1_some, w4, bnd1_some, chk_pos (nI_ne0 (by omega) (by omega)), w5, b3, bnd2_some]
    · subst hSS
      rw [e8 v1 v2 hv, if_neg (fun z => by have := (nI_leI (b := 1) (by omega) (by decide)).mp z; omega), w1, bnd1_some, w2, bnd1_some, b2, bnd2_some]
  · have h1 : tN T = 1 := by omega
    refine ⟨_, _, _, ?_, hm, uG_s, fun _ => rfl, fun z => absurd z h2, fun _ v1 v2 hv => ?_⟩
    · rw [e9, h1, if_neg (show ¬ nI 1 ≠ 1 by decide)]
    · rw [e8 v1 v2 hv, h1, if_pos (show nI 1 ≤ 1 by decide)]
