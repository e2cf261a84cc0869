/-! a meeting -/
def unP (g : Gs) (a b : Nat) : Nat → Bool := fun w => decide (gA g a w = 1) || decide (gA g b w = 1)
/-- what a meeting makes of the sets, the known ones, the order -/
def MeetS (g : Gs) (a b : Nat) (g' : Gs) : Prop := gW g' = gW g ∧ gP g' = gP g ∧ gC g' = gC g ∧ (∀ c w, gA g' c w = if c = b ∧ gA g a w = 1 then 1 else gA g c w) ∧ (∀ c, c ≠ b → gK g' c = gK g c) ∧ (if b = gP g ∧ lkN g a b (gW g) ≠ 0 then gO g' = gK g' b ∧ gK g' b = cnN (hsP g' b) (gW g) else gO g' = gO g ∧ gK g' b = max (gK g b) (gK g a))
theorem Mid.join {T : Td} {g0 g : Gs} {σ1 τ0 σ τ : Wd} {a b : Nat} (h : Mid T g0 σ1 τ0 g σ τ) (ha : a < tN T) (hb : b < tN T) : ∃ g', Mid T g0 σ1 τ0 g' (uL (uL σ 29 (6 + b) (gL σ 29 (6 + b) ||| gL σ 29 (6 + a))) 29 (11 + b) (lN (max (gK g b) (gK g a)))) (uI (rI τ 26 (brF g a b (τ.1 26) (gW g))) 26 (15 + 6 * b) (nI (max (gK g b) (gK g a)))) ∧ (∀ c w, gA g' c w = if c = b ∧ gA g a w = 1 then 1 else gA g c w) ∧ gK g' b = max (gK g b) (gK g a) ∧ (∀ c, c ≠ b → gK g' c = gK g c) ∧ (∀ t x y, t ≠ 11 → t ≠ 6 → g'.1 t x y = g.1 t x y) ∧ (∀ w, iX g' w = iX g w) := by
  have hI := h.2.2.2.2.2.2.1
  have hn := hI.1.2.2.2.2.1
  have hm := h.has ha hb
  have ka := hI.2.2.1 a (by omega)
  have kb := hI.2.2.1 b (by omega)
  refine ⟨uG (uA g a b) 6 b 0 (max (gK g b) (gK g a)), hm.know hb ?_ (fun e => ?_) (fun i hi => ?_), fun c w => ?_, uG_s, fun c hc => uG_o (fun z => hc z.2.1), fun t x y q1 q2 => (uG_o (fun z => q2 z.1)).trans (uA_o q1), fun w => rfl⟩
  · show max (gK g b) (gK g a) ≤ gO g
    omega
  · have hKP : gK g (gP g) = gO g := hI.2.2.2.1
    have e : b = gP g := e
    show max (gK g b) (gK g a) = gO g
    rw [← e] at hKP
    omega
  · rw [uA_A]
    show (if b = b ∧ gA g a (gD g i) = 1 then 1 else gA g b (gD g i)) = 1
    by_cases q : i < gK g a
    · rw [if_pos ⟨rfl, hI.2.2.2.2.2.2.1 a i ha q⟩]
    · by_cases q2 : b = b ∧ gA g a (gD g i) = 1
      · rw [if_pos q2]
      · rw [if_neg q2]; exact hI.2.2.2.2.2.2.1 b i hb (by omega)
  · exact uA_A
theorem Mid.tail {T : Td} {t l : Nat} {g0 g : Gs} {σ1 τ0 σ τ : Wd} {a b n m : Nat} {f f2 : Nat → Nat} (h : Mid T g0 σ1 τ0 g σ τ) (hT : RText T t l σ1 τ0) (ha : a < tN T) (hb : b < tN T) (hn : n ≤ 60) (hF : ∀ i, i < n → gI σ 35 i = nI (f i) ∧ f i < 60) (hF2 : ∀ i, i < m → gI σ 36 i = nI (f2 i) ∧ f2 i < 60) (h47 : gI τ 0 47 = nI n) (hH : ∀ i, i < n → gI τ 28 i = nI (f i)) (e : lgn g (hsP g b) (gK g b) = m) (e2 : ∀ i, i < m → lgf g (hsP g b) (gK g b) i = f2 i) : ∃ s g' σ' τ', AlS f f2 n m s ∧ M_X1_holdMeeting_J150 σ (nI a) (nI b) (nI n) (nI m) = some (nI n - nI s, σ') ∧ M_X9_meets_J80 τ (nI a) (nI b) = some (nI n - nI s, τ') ∧ Mid T g0 σ1 τ0 g' σ' τ' ∧ (∀ t x y, t ≠ 4 → t ≠ 5 → g'.1 t x y = g.1 t x y) ∧ (∀ w, iX g' w = iX g w) := by
  have hQ := h.qd hT
  obtain ⟨hW, hO, hPn, hn5⟩ := q_bd hQ
  have hI := hQ.2.2.2.2.1
  obtain ⟨G, m1, m2⟩ := m_log (c := b) hQ (by omega)
  have hmW := (lg_facts hI (show b < 5 by omega)).2.2.1
  rw [e] at m1 m2 hmW
  obtain ⟨s, a1, a2⟩ := c_alike (σ := σ) (a := 35) (b := 36) (f := f) (h := f2) hn (show m ≤ 60 by omega) hF hF2
  obtain ⟨s', b1, b2⟩ := m_alike (τ := W27 τ G m) (f := f2) (h := f) W27_45 ((W27_o (Or.inr (by decide)) (by decide)).trans h47) (show m ≤ 60 by omega) hn (fun i hi => ⟨W27_27.trans (by rw [m2 i hi, e2 i hi]), (hF2 i hi).2⟩) (fun i hi => ⟨(W27_o (by omega) (by decide)).trans (hH i hi), (hF i hi).2⟩)
  obtain rfl := AlS_u a1 (AlS_sym b1)
  have hm1 := h.kq (KQ.refl.W27 (F := G) (n := m))
  obtain ⟨g1, q1, q2, q3⟩ := hm1.add (d := (nI n - nI s).toInt64) (i := 0) hb (by decide)
  obtain ⟨g2, r1, r2, r3⟩ := q1.add (d := (nI m - nI s).toInt64) (i := 1) hb (by decide)
  obtain ⟨g3, σ3, τ3, u1, u2, u3, u4, u5⟩ := r1.shuts ha
  obtain ⟨g4, σ4, τ4, v1, v2, v3, v4, v5⟩ := u3.shuts hb
  have x3 : gI τ3 0 47 = nI n := by
    obtain ⟨fx, hx⟩ := m_shuts_o (c := a) (by omega) (r1.2.2.2.2.2.1.1.2.2.2.2) (by have := r1.2.2.2.2.2.2.1.1.2.2.2.1; omega)
    rw [u2] at hx
    rw [Option.some.inj hx, gI_rI_n (by decide), gI_uI, if_neg (by omega), gI_uI, if_neg (by omega), W27_o (Or.inr (by decide)) (by decide)]
    exact h47
  have x4 : gI τ4 0 47 = nI n := by
    obtain ⟨fx, hx⟩ := m_shuts_o (c := b) (by omega) (u3.2.2.2.2.2.1.1.2.2.2.2) (by have := u3.2.2.2.2.2.2.1.1.2.2.2.1; omega)
    rw [v2] at hx
    rw [Option.some.inj hx, gI_rI_n (by decide)]
    exact x3
  refine ⟨s, g4, σ4, τ4, a1, ?_, ?_, v3, fun t x y h1 h2 => by rw [v4 t x y h1 h2, u4 t x y h1 h2, r2, q2], fun w => by rw [v5, u5, r3, q3]⟩
  · unfold M_X1_holdMeeting_J150
    rw [a2, bnd1_some, show (16 : Int32) + nI b = nI (16 + b) from nI_add 16 b, show (21 : Int32) + nI b = nI (21 + b) from nI_add 21 b, chk_pos ((ib_nI (by omega)).mpr (by omega)), chk_pos ((ib_nI (by omega)).mpr (by omega)), ix_nI (by omega), ix_nI (by omega)]
    simp only [lt_eq]
    rw [chk_pos ((ib_nI (by omega)).mpr (by omega)), chk_pos ((ib_nI (by omega)).mpr (by omega))]
    have u1' : M_X1_closeLog (uL (uL σ 29 (16 + b) (gL σ 29 (16 + b) + (nI n - nI s).toInt64)) 29 (21 + b) (gL (uL σ 29 (16 + b) (gL σ 29 (16 + b) + (nI n - nI s).toInt64)) 29 (21 + b) + (nI m - nI s).toInt64)) (nI a) = some σ3 := u1
    rw [u1', bnd1_some, v1, bnd1_some]
  · have d1 : (nI n - nI s).toInt64.toInt32 = nI n - nI s := by simp
    have d2 : (nI m - nI s).toInt64.toInt32 = nI m - nI s := by simp
    rw [d1, d2] at u2
    unfold M_X9_meets_J80
    rw [m1, bnd1_some, b2, bnd1_some, (show gI (W27 τ G m) 0 47 = nI n from (W27_o (Or.inr (by decide)) (by decide)).trans h47), show (1 : Int32) = nI 1 from rfl, m_adds (by omega) (by decide), bnd1_some, show gI (uI (W27 τ G m) 26 (15 + 6 * b + 1) (gI (W27 τ G m) 26 (15 + 6 * b + 1) + (nI n - nI s))) 0 45 = nI m from (by rw [gI_uI, if_neg (by omega)]; exact W27_45), show (2 : Int32) = nI 2 from rfl, m_adds (by omega) (by decide), bnd1_some]
    have u2' : M_X9_shuts (uI (uI (W27 τ G m) 26 (15 + 6 * b + 1) (gI (W27 τ G m) 26 (15 + 6 * b + 1) + (nI n - nI s))) 26 (15 + 6 * b + 2) (gI (uI (W27 τ G m) 26 (15 + 6 * b + 1) (gI (W27 τ G m) 26 (15 + 6 * b + 1) + (nI n - nI s))) 26 (15 + 6 * b + 2) + (nI m - nI s))) (nI a) = some τ3 := u2
    rw [u2', bnd1_some, v2, bnd1_some, x4]
theorem lg_after {n m c : Nat} {g g' : Gs} (hI : Inv n m g) (hc : c < 5) (hW : gW g' = gW g) (hA : ∀ w, gA g' c w = gA g c w) (hD : ∀ i, i < lgn g (hsP g c) (gK g c) → gD g' i = lgf g (hsP g c) (gK g c) i) : lgn g' (hsP g' c) (lgn g (hsP g c) (gK g c)) = lgn g (hsP g c) (gK g c) ∧ ∀ i, i < lgn g (hsP g c) (gK g c) → lgf g' (hsP g' c) (lgn g (hsP g c) (gK g c)) i = lgf g (hsP g c) (gK g c) i := by
  have lf := lg_facts hI hc
  have e : lgN g' (lgR g' (hsP g' c) (lgn g (hsP g c) (gK g c))) (lgn g (hsP g c) (gK g c)) (gW g') = (fun i => gD g' i, lgn g (hsP g c) (gK g c)) := lgN_none _ (fun w hw => by
    show (decide (gA g' c w = 1) && !knN g' w (lgn g (hsP g c) (gK g c))) = false
    rw [hA]
    by_cases q : gA g c w = 1
    · obtain ⟨i, hi, hie⟩ := lf.2.2.2.2 w (by omega) q
      rw [(knN_iff (g := g') (w := w) _).mpr ⟨i, hi, by rw [hD i hi]; exact hie⟩]
      simp
    · simp [q])
  have e1 : lgn g' (hsP g' c) (lgn g (hsP g c) (gK g c)) = lgn g (hsP g c) (gK g c) := by
    show (lgN g' (lgR g' (hsP g' c) (lgn g (hsP g c) (gK g c))) (lgn g (hsP g c) (gK g c)) (gW g')).2 = _
    rw [e]
  have e2 : lgf g' (hsP g' c) (lgn g (hsP g c) (gK g c)) = fun i => gD g' i := by
    show (lgN g' (lgR g' (hsP g' c) (lgn g (hsP g c) (gK g c))) (lgn g (hsP g c) (gK g c)) (gW g')).1 = _
    rw [e]
  refine ⟨e1, fun i hi => ?_⟩
  rw [e2]
  exact hD i hi
theorem m_kept {T : Td} {t l : Nat} {g : Gs} {σ τ : Wd} (h : Qd T t l g σ τ) {c : Nat} (hc : c < 5) : ∃ τ2 τ3, M_X9_fillsLog τ (nI c) = some τ2 ∧ M_X9_keepsLog τ2 = some τ3 ∧ KQ τ τ3 ∧ gI τ3 0 47 = nI (lgn g (hsP g c) (gK g c)) ∧ ∀ i, i < lgn g (hsP g c) (gK g c) → gI τ3 28 i = nI (lgf g (hsP g c) (gK g c) i) := by
  obtain ⟨hW, hO, hPn, _⟩ := q_bd h
  obtain ⟨G, m1, m2⟩ := m_log (c := c) h hc
  have lf := lg_facts h.2.2.2.2.1 hc
  have k1 := m_keep (W27_45 (τ := τ) (F := G) (n := lgn g (hsP g c) (gK g c))) (by omega)
  exact ⟨_, _, m1, k1, (KQ.refl.W27).W28, W28_47, fun i hi => by rw [W28_28, cpy_at hi]; exact W27_27.trans (m2 i hi)⟩
set_option maxHeartbeats 4000000 in
theorem Mid.meet {T : Td} {t l : Nat} {g0 g : Gs} {σ1 τ0 σ τ : Wd} {a b : Nat} (h : Mid T g0 σ1 τ0 g σ τ) (hT : RText T t l σ1 τ0) (ha : a < tN T) (hb : b < tN T) (hab : a ≠ b) : ∃ s g' σ' τ', AlS (lgf g (hsP g b) (gK g b)) (lgf g (unP g a b) (max (gK g b) (gK g a))) (lgn g (hsP g b) (gK g b)) (lgn g (unP g a b) (max (gK g b) (gK g a))) s ∧ M_X1_holdMeeting σ (nI a) (nI b) = some (nI (lgn g (hsP g b) (gK g b)) - nI s, σ') ∧ M_X9_meets τ (nI a) (nI b) = some (nI (lgn g (hsP g b) (gK g b)) - nI s, τ') ∧ Mid T g0 σ1 τ0 g' σ' τ' ∧ MeetS g a b g' := by
  have hn5 := h.2.2.2.2.2.2.1.1.2.2.2.2.1
  obtain ⟨g1, σa, τa, o1, o2, o3, o4, o5⟩ := h.opens hb
  obtain ⟨g2, σb, τb, p1, p2, p3, p4, p5⟩ := o3.opens ha
  have E : ∀ t x y, g2.1 t x y = g.1 t x y := fun t x y => by rw [p4, o4]
  have hQ := p3.qd hT
  obtain ⟨hW, hO, hPn, _⟩ := q_bd hQ
  have hI := hQ.2.2.2.2.1
  have eL : lgf g2 (hsP g2 b) (gK g2 b) = lgf g (hsP g b) (gK g b) ∧ lgn g2 (hsP g2 b) (gK g2 b) = lgn g (hsP g b) (gK g b) := by
    rw [show gK g2 b = gK g b from E _ _ _]
    exact lg_cong (fun x => E _ _ _) (fun x => E _ _ _) (fun x => E _ _ _) (E _ _ _) (fun w _ => by show decide (gA g2 b w = 1) = decide (gA g b w = 1); rw [show gA g2 b w = gA g b w from E _ _ _])
  have lf := lg_facts hI (show b < 5 by omega)
  obtain ⟨F, c1, c2⟩ := c_lay (a := 35) (P := hsP g2 b) hQ (by decide) (hI.2.2.1 b (by omega)) (q_bits hQ (by omega))
  obtain ⟨τ2, τ3, m1, k1, kq, k47, k28⟩ := m_kept (c := b) hQ (by omega)
  have hm3 := (p3.ba (F := F) (Or.inl rfl)).kq kq
  have hQ3 := hm3.qd hT
  have b1 := m_brings hQ3 (show a < 5 by omega) (show b < 5 by omega) hab
  have b2 := c_brings hQ3 (show a < 5 by omega) (show b < 5 by omega)
  obtain ⟨g5, j1, j2, j3, j4, j5, j6⟩ := hm3.join ha hb
  have hQ5 := j1.qd hT
  have hI5 := hQ5.2.2.2.2.1
  obtain ⟨F2, d1, d2⟩ := c_lay (a := 36) (P := hsP g5 b) hQ5 (by decide) (hI5.2.2.1 b (by omega)) (q_bits hQ5 (by omega))
  have lf5 := lg_facts hI5 (show b < 5 by omega)
  have hW5 : gW g5 = gW g2 := j5 _ _ _ (by decide) (by decide)
  have hO5 : gO g5 = gO g2 := j5 _ _ _ (by decide) (by decide)
  have hP5 : gP g5 = gP g2 := j5 _ _ _ (by decide) (by decide)
  have hm6 := j1.ba (F := F2) (Or.inr rfl)
  have eU : lgf g5 (hsP g5 b) (gK g5 b) = lgf g (unP g a b) (max (gK g b) (gK g a)) ∧ lgn g5 (hsP g5 b) (gK g5 b) = lgn g (unP g a b) (max (gK g b) (gK g a)) := by
    rw [j3, show gK g2 b = gK g b from E _ _ _, show gK g2 a = gK g a from E _ _ _]
    refine lg_cong (fun x => (j5 _ _ _ (by decide) (by decide)).trans (E _ _ _)) (fun x => (j5 _ _ _ (by decide) (by decide)).trans (E _ _ _)) (fun x => (j5 _ _ _ (by decide) (by decide)).trans (E _ _ _)) ((j5 _ _ _ (by decide) (by decide)).trans (E _ _ _)) (fun w _ => ?_)
    show decide (gA g5 b w = 1) = (decide (gA g a w = 1) || decide (gA g b w = 1))
    rw [j2, show gA g2 a w = gA g a w from E _ _ _, show gA g2 b w = gA g b w from E _ _ _]
    by_cases q : gA g a w = 1
    · rw [if_pos ⟨rfl, q⟩]; simp [q]
    · rw [if_neg (fun z => q z.2)]; simp [q]
  have hlk : lkN g2 a b (gW g2) = lkN g a b (gW g) := by
    rw [show gW g2 = gW g from E _ _ _]
    have : ∀ k, lkN g2 a b k = lkN g a b k := by
      intro k
      induction k with
      | zero => rfl
      | succ k ih =>
        show (if gA g2 a k = 1 ∧ gA g2 b k ≠ 1 then lkN g2 a b k + 1 else lkN g2 a b k) = (if gA g a k = 1 ∧ gA g b k ≠ 1 then lkN g a b k + 1 else lkN g a b k)
        rw [ih, show gA g2 a k = gA g a k from E _ _ _, show gA g2 b k = gA g b k from E _ _ _]
    exact this _
  -- the end, with the order given or not
  have fin : ∃ s g' σ' τ' , AlS (lgf g2 (hsP g2 b) (gK g2 b)) (lgf g5 (hsP g5 b) (gK g5 b)) (lgn g2 (hsP g2 b) (gK g2 b)) (lgn g5 (hsP g5 b) (gK g5 b)) s ∧ (∀ t0 : Int32, t0 = (if lkN g2 a b (gW g2) = 0 then 0 else 1) → M_X1_holdMeeting_J54 (rI σb 35 F) (nI a) (nI b) (nI (lgn g2 (hsP g2 b) (gK g2 b))) t0 = some (nI (lgn g2 (hsP g2 b) (gK g2 b)) - nI s, σ') ∧ M_X9_meets_J61 (uI (rI τ3 26 (brF g2 a b (τ3.1 26) (gW g2))) 26 (15 + 6 * b) (nI (max (gK g2 b) (gK g2 a)))) (nI a) (nI b) t0 = some (nI (lgn g2 (hsP g2 b) (gK g2 b)) - nI s, τ')) ∧ Mid T g0 σ1 τ0 g' σ' τ' ∧ MeetS g2 a b g' := by
    have hF : ∀ i, i < lgn g2 (hsP g2 b) (gK g2 b) → F i = nI (lgf g2 (hsP g2 b) (gK g2 b) i) ∧ lgf g2 (hsP g2 b) (gK g2 b) i < 60 := fun i hi => ⟨c2 i hi, by have := lf.1 i hi; omega⟩
    have hF2 : ∀ i, i < lgn g5 (hsP g5 b) (gK g5 b) → F2 i = nI (lgf g5 (hsP g5 b) (gK g5 b) i) ∧ lgf g5 (hsP g5 b) (gK g5 b) i < 60 := fun i hi => ⟨d2 i hi, by have := lf5.1 i hi; omega⟩
    have hN60 : lgn g2 (hsP g2 b) (gK g2 b) ≤ 60 := by have := lf.2.2.1; omega
    -- the class's first half
    have e54 : ∀ t0, M_X1_holdMeeting_J54 (rI σb 35 F) (nI a) (nI b) (nI (lgn g2 (hsP g2 b) (gK g2 b))) t0 = (if nI b ≠ nI (gP g5) then M_X1_holdMeeting_J150 (rI (uL (uL (rI σb 35 F) 29 (6 + b) (gL (rI σb 35 F) 29 (6 + b) ||| gL (rI σb 35 F) 29 (6 + a))) 29 (11 + b) (lN (max (gK g2 b) (gK g2 a)))) 36 F2) (nI a) (nI b) (nI (lgn g2 (hsP g2 b) (gK g2 b))) (nI (lgn g5 (hsP g5 b) (gK g5 b))) else if t0 = 0 then M_X1_holdMeeting_J150 (rI (uL (uL (rI σb 35 F) 29 (6 + b) (gL (rI σb 35 F) 29 (6 + b) ||| gL (rI σb 35 F) 29 (6 + a))) 29 (11 + b) (lN (max (gK g2 b) (gK g2 a)))) 36 F2) (nI a) (nI b) (nI (lgn g2 (hsP g2 b) (gK g2 b))) (nI (lgn g5 (hsP g5 b) (gK g5 b))) else bnd1 (M_X1_giveOrder (rI (uL (uL (rI σb 35 F) 29 (6 + b) (gL (rI σb 35 F) 29 (6 + b) ||| gL (rI σb 35 F) 29 (6 + a))) 29 (11 + b) (lN (max (gK g2 b) (gK g2 a)))) 36 F2) 36 60 (nI (lgn g5 (hsP g5 b) (gK g5 b)))) fun s_147 => M_X1_holdMeeting_J150 s_147 (nI a) (nI b) (nI (lgn g2 (hsP g2 b) (gK g2 b))) (nI (lgn g5 (hsP g5 b) (gK g5 b)))) := fun t0 => by
      have kA : gL (uL (rI σb 35 F) 29 (6 + b) (gL (rI σb 35 F) 29 (6 + b) ||| gL (rI σb 35 F) 29 (6 + a))) 29 (11 + a) = lN (gK g2 a) := by rw [gL_uL, if_neg (by omega)]; exact (hQ3.2.1.2.2.1 a (by omega)).2.1
      have kB : gL (uL (rI σb 35 F) 29 (6 + b) (gL (rI σb 35 F) 29 (6 + b) ||| gL (rI σb 35 F) 29 (6 + a))) 29 (11 + b) = lN (gK g2 b) := by rw [gL_uL, if_neg (by omega)]; exact (hQ3.2.1.2.2.1 b (by omega)).2.1
      have hka := hI.2.2.1 a (by omega)
      have hkb := hI.2.2.1 b (by omega)
      have eM : (if lN (gK g2 a) < lN (gK g2 b) then lN (gK g2 b) else lN (gK g2 a)) = lN (max (gK g2 b) (gK g2 a)) := by
        by_cases q : gK g2 a < gK g2 b
        · rw [if_pos ((lN_lt (by omega) (by omega)).mpr q), Nat.max_eq_left (by omega)]
        · rw [if_neg (fun z => q ((lN_lt (by omega) (by omega)).mp z)), Nat.max_eq_right (by omega)]
      unfold M_X1_holdMeeting_J54
      rw [show (6 : Int32) + nI b = nI (6 + b) from nI_add 6 b, show (6 : Int32) + nI a = nI (6 + a) from nI_add 6 a, show (11 : Int32) + nI a = nI (11 + a) from nI_add 11 a, show (11 : Int32) + nI b = nI (11 + b) from nI_add 11 b, chk_pos ((ib_nI (by omega)).mpr (by omega)), chk_pos ((ib_nI (by omega)).mpr (by omega)), chk_pos ((ib_nI (by omega)).mpr (by omega)), ix_nI (show 6 + b < 2 ^ 31 by omega), ix_nI (show 6 + a < 2 ^ 31 by omega), ix_nI (show 11 + a < 2 ^ 31 by omega), ix_nI (show 11 + b < 2 ^ 31 by omega)]
      simp only [lt_eq]
      rw [chk_pos ((ib_nI (by omega)).mpr (by omega)), chk_pos ((ib_nI (by omega)).mpr (by omega)), chk_pos ((ib_nI (by omega)).mpr (by omega))]
      rw [kA, kB, eM, c_setOf (by omega), bnd1_some, (q_known hQ5 (show b < 5 by omega)).1, bnd1_some, d1, bnd2_some, show M_X1_primary (rI (uL (uL (rI σb 35 F) 29 (6 + b) (gL (rI σb 35 F) 29 (6 + b) ||| gL (rI σb 35 F) 29 (6 + a))) 29 (11 + b) (lN (max (gK g2 b) (gK g2 a)))) 36 F2) = some (nI (gP g5)) from c_primary (hQ5.2.1.1.2.1), bnd1_some]
      rfl
    have e61 : ∀ t0 τ, τ.1 26 2 = nI (gP g5) → M_X9_meets_J61 τ (nI a) (nI b) t0 = if t0 = 0 then M_X9_meets_J80 τ (nI a) (nI b) else if nI b ≠ nI (gP g5) then M_X9_meets_J80 τ (nI a) (nI b) else bnd1 (M_X9_gives τ (nI b)) fun s_77 => M_X9_meets_J80 s_77 (nI a) (nI b) := fun t0 τ hτ => by
      unfold M_X9_meets_J61
      rw [chk_pos (by decide), show gI τ 26 (ix (2 : Int32)) = nI (gP g5) from hτ]
    have h47 : ∀ r, gI (uI (rI τ3 26 r) 26 (15 + 6 * b) (nI (max (gK g2 b) (gK g2 a)))) 0 47 = nI (lgn g2 (hsP g2 b) (gK g2 b)) := fun r => by
      rw [gI_uI, if_neg (by omega), gI_rI_n (by decide)]
      exact k47
    have h28 : ∀ r i, i < lgn g2 (hsP g2 b) (gK g2 b) → gI (uI (rI τ3 26 r) 26 (15 + 6 * b) (nI (max (gK g2 b) (gK g2 a)))) 28 i = nI (lgf g2 (hsP g2 b) (gK g2 b) i) := fun r i hi => by
      rw [gI_uI, if_neg (by omega), gI_rI_n (by decide)]
      exact k28 i hi
    by_cases hg : b = gP g2 ∧ lkN g2 a b (gW g2) ≠ 0
    · have hbP : gP g5 = b := hP5.trans hg.1.symm
      have hKO : gK g5 b = gO g5 := by have := hI5.2.2.2.1; rwa [hbP] at this
      obtain ⟨v1, v2, σ7, τ7, u1, u2, u3, u4, u5, u6, u7⟩ := hm6.give hT (by rw [hbP, ← hKO]; exact fun i hi => gI_rI_s.trans (d2 i hi))
      rw [hbP, ← hKO] at v1 v2 u1 u3
      rw [hbP] at u2
      have hK7 : ∀ c, gK (uG (oG g5 (lgf g5 (hsP g5 b) (gK g5 b)) (lgn g5 (hsP g5 b) (gK g5 b))) 6 b 0 (lgn g5 (hsP g5 b) (gK g5 b))) c = if c = b then lgn g5 (hsP g5 b) (gK g5 b) else gK g5 c := fun c => by
        by_cases q : c = b
        · rw [if_pos q, q]; exact uG_s
        · rw [if_neg q]; exact (uG_o (fun z => q z.2.1)).trans (oG_o (by decide) (by decide))
      have aft := lg_after (g' := uG (oG g5 (lgf g5 (hsP g5 b) (gK g5 b)) (lgn g5 (hsP g5 b) (gK g5 b))) 6 b 0 (lgn g5 (hsP g5 b) (gK g5 b))) hI5 (show b < 5 by omega) rfl (fun w => rfl) (fun i hi => rfl)
      have eKb : gK (uG (oG g5 (lgf g5 (hsP g5 b) (gK g5 b)) (lgn g5 (hsP g5 b) (gK g5 b))) 6 b 0 (lgn g5 (hsP g5 b) (gK g5 b))) b = lgn g5 (hsP g5 b) (gK g5 b) := by rw [hK7, if_pos rfl]
      obtain ⟨s, g', σ', τ', t1, t2, t3, t4, t5, t6⟩ := u3.tail (n := lgn g2 (hsP g2 b) (gK g2 b)) (m := lgn g5 (hsP g5 b) (gK g5 b)) (f := lgf g2 (hsP g2 b) (gK g2 b)) (f2 := lgf g5 (hsP g5 b) (gK g5 b)) hT ha hb hN60 (fun i hi => ⟨by
        show σ7.1 35 i = _
        rw [u4, rI_ne (by decide)]
        show gI (rI σb 35 F) 35 i = _
        exact gI_rI_s.trans (hF i hi).1, (hF i hi).2⟩) (fun i hi => ⟨by
        show σ7.1 36 i = _
        rw [u5, rI_at]
        exact (hF2 i hi).1, (hF2 i hi).2⟩) (u6.trans (h47 _)) (fun i hi => by
        show τ7.1 28 i = _
        rw [u7]
        exact h28 _ i hi) (by rw [eKb]; exact aft.1) (fun i hi => by rw [eKb]; exact aft.2 i hi)
      refine ⟨s, g', σ', τ', t1, fun t0 ht0 => ?_, t4, ?_⟩
      · rw [if_neg hg.2] at ht0
        subst ht0
        refine ⟨?_, ?_⟩
        · rw [e54, if_neg (fun z => z (by rw [hbP])), if_neg n10, u1, bnd1_some, t2]
        · rw [e61 _ _ (j1.2.2.2.2.2.1.1.2.2.1), if_neg n10, if_neg (fun z => z (by rw [hbP])), u2, bnd1_some, t3]
      · refine ⟨(t5 _ _ _ (by decide) (by decide)).trans hW5, (t5 _ _ _ (by decide) (by decide)).trans hP5, (t5 _ _ _ (by decide) (by decide)).trans (j5 _ _ _ (by decide) (by decide)), fun c w => (t5 _ _ _ (by decide) (by decide)).trans (j2 c w), fun c hc => ?_, ?_⟩
        · exact (t5 _ _ _ (by decide) (by decide)).trans ((hK7 c).trans ((if_neg hc).trans (j4 c hc)))
        · rw [if_pos hg]
          have e1 : gK g' b = lgn g5 (hsP g5 b) (gK g5 b) := (t5 _ _ _ (by decide) (by decide)).trans eKb
          have e2 : gO g' = lgn g5 (hsP g5 b) (gK g5 b) := t5 _ _ _ (by decide) (by decide)
          refine ⟨by rw [e1, e2], ?_⟩
          rw [e1]
          refine (cnN_bij (P := hsP g' b) (gW g2) _ (lgf g5 (hsP g5 b) (gK g5 b)) (fun i hi => ⟨by rw [← hW5]; exact lf5.1 i hi, ?_⟩) lf5.2.1 (fun w hw hw2 => ?_)).symm
          · show decide (gA g' b _ = 1) = true
            rw [show gA g' b (lgf g5 (hsP g5 b) (gK g5 b) i) = gA g5 b (lgf g5 (hsP g5 b) (gK g5 b) i) from t5 _ _ _ (by decide) (by decide), lf5.2.2.2.1 i hi]
            rfl
          · have hw2 : decide (gA g' b w = 1) = true := hw2
            rw [show gA g' b w = gA g5 b w from t5 _ _ _ (by decide) (by decide)] at hw2
            exact lf5.2.2.2.2 w (by rw [hW5]; exact hw) (by simpa using hw2)
    · obtain ⟨s, g', σ', τ', t1, t2, t3, t4, t5, t6⟩ := hm6.tail (n := lgn g2 (hsP g2 b) (gK g2 b)) (m := lgn g5 (hsP g5 b) (gK g5 b)) (f := lgf g2 (hsP g2 b) (gK g2 b)) (f2 := lgf g5 (hsP g5 b) (gK g5 b)) hT ha hb hN60 (fun i hi => ⟨by
        rw [gI_rI_n (by decide)]
        show gI (rI σb 35 F) 35 i = _
        exact gI_rI_s.trans (hF i hi).1, (hF i hi).2⟩) (fun i hi => ⟨gI_rI_s.trans (hF2 i hi).1, (hF2 i hi).2⟩) (h47 _) (fun i hi => h28 _ i hi) rfl (fun i hi => rfl)
      refine ⟨s, g', σ', τ', t1, fun t0 ht0 => ?_, t4, ?_⟩
      · have hP60 : gP g5 < 2 ^ 31 := by rw [hP5]; omega
        refine ⟨?_, ?_⟩
        · rw [e54]
          by_cases q : b = gP g2
          · have q2 : lkN g2 a b (gW g2) = 0 := Classical.byContradiction fun z => hg ⟨q, z⟩
            rw [if_pos q2] at ht0
            rw [if_neg (fun z => z (by rw [hP5, ← q])), if_pos ht0, t2]
          · rw [if_pos (show nI b ≠ nI (gP g5) from fun z => q (by rw [← hP5]; exact (nI_eq (by omega) hP60).mp z)), t2]
        · rw [e61 _ _ (j1.2.2.2.2.2.1.1.2.2.1)]
          by_cases q2 : lkN g2 a b (gW g2) = 0
          · rw [if_pos q2] at ht0
            rw [if_pos ht0, t3]
          · have q : ¬ b = gP g2 := fun z => hg ⟨z, q2⟩
            rw [if_neg q2] at ht0
            rw [ht0, if_neg n10, if_pos (show nI b ≠ nI (gP g5) from fun z => q (by rw [← hP5]; exact (nI_eq (by omega) hP60).mp z)), t3]
      · refine ⟨(t5 _ _ _ (by decide) (by decide)).trans hW5, (t5 _ _ _ (by decide) (by decide)).trans hP5, (t5 _ _ _ (by decide) (by decide)).trans (j5 _ _ _ (by decide) (by decide)), fun c w => (t5 _ _ _ (by decide) (by decide)).trans (j2 c w), fun c hc => (t5 _ _ _ (by decide) (by decide)).trans (j4 c hc), ?_⟩
        rw [if_neg hg]
        exact ⟨(t5 _ _ _ (by decide) (by decide)).trans hO5, (t5 _ _ _ (by decide) (by decide)).trans j3⟩
  obtain ⟨s, g', σ', τ', z1, z2, z3, z4⟩ := fin
  obtain ⟨y1, y2⟩ := z2 _ rfl
  rw [eL.1, eL.2, eU.1, eU.2] at z1
  refine ⟨s, g', σ', τ', z1, ?_, ?_, z3, ?_⟩
  · unfold M_X1_holdMeeting
    rw [o1, bnd1_some, p1, bnd1_some, c_setOf (by omega), bnd1_some, (q_known hQ (show b < 5 by omega)).1, bnd1_some, c1, bnd2_some, c_setOf (by omega), bnd1_some, c_setOf (by omega), bnd1_some]
    rw [← eL.2]
    by_cases q : lkN g2 a b (gW g2) = 0
    · rw [if_pos q] at y1
      rw [if_pos (b2.mpr q)]
      exact y1
    · rw [if_neg q] at y1
      rw [if_neg (fun z => q (b2.mp z))]
      exact y1
  · unfold M_X9_meets
    rw [o2, bnd1_some, p2, bnd1_some, m1, bnd1_some, k1, bnd1_some, b1, bnd2_some]
    have hQ4 := (hm3.has ha hb).qd hT
    have hka := hI.2.2.1 a (by omega)
    have hkb := hI.2.2.1 b (by omega)
    rw [show M_X9_ofCopy _ (nI a) 0 = some (nI (gK g2 a)) from (q_known hQ4 (show a < 5 by omega)).2, bnd1_some, show M_X9_ofCopy _ (nI b) 0 = some (nI (gK g2 b)) from (q_known hQ4 (show b < 5 by omega)).2, bnd1_some, bnd1_some]
    rw [← eL.2]
    by_cases q : gK g2 a ≤ gK g2 b
    · rw [if_pos ((nI_leI (by omega) (by omega)).mpr q)]
      rw [Nat.max_eq_left q] at y2
      have e0 := (hQ4.2.2.2.1.2.2.1 b (by omega)).1
      have e0 : gI (rI τ3 26 (brF g2 a b (τ3.1 26) (gW g2))) 26 (15 + 6 * b) = nI (gK g2 b) := e0
      rw [← e0, uI_self] at y2
      exact y2
    · rw [if_neg (fun z => q ((nI_leI (by omega) (by omega)).mp z)), show (15 : Int32) + 6 * nI b + 0 = nI (15 + 6 * b) by rw [show (15 : Int32) = nI 15 from rfl, show (6 : Int32) = nI 6 from rfl, pk_mul, nI_add]; exact nI_add _ 0, chk_pos ((ib_nI (by omega)).mpr (by omega)), ix_nI (by omega)]
      simp only [lt_eq]
      rw [Nat.max_eq_right (by omega)] at y2
      exact y2
  · obtain ⟨w1, w2, w3, w4, w5, w6⟩ := z4
    refine ⟨w1.trans (E _ _ _), w2.trans (E _ _ _), w3.trans (E _ _ _), fun c w => ?_, fun c hc => (w5 c hc).trans (E _ _ _), ?_⟩
    · rw [w4, show gA g2 a w = gA g a w from E _ _ _, show gA g2 c w = gA g c w from E _ _ _]
    · rw [hlk, show gP g2 = gP g from E _ _ _, show gW g2 = gW g from E _ _ _, show gO g2 = gO g from E _ _ _, show gK g2 b = gK g b from E _ _ _, show gK g2 a = gK g a from E _ _ _] at w6
      exact w6
