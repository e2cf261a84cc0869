/-! counters; a log opened and closed; lead -/
theorem m_adds {τ : Wd} {c i : Nat} {v : Int32} (hc : c < 5) (hi : i < 6) : M_X9_adds τ (nI c) (nI i) v = some (uI τ 26 (15 + 6 * c + i) (gI τ 26 (15 + 6 * c + i) + v)) := by
  unfold M_X9_adds
  rw [show (15 : Int32) + 6 * nI c + nI i = nI (15 + 6 * c + i) by rw [show (15 : Int32) = nI 15 from rfl, show (6 : Int32) = nI 6 from rfl, pk_mul, nI_add, nI_add], chk_pos ((ib_nI (by omega)).mpr (by omega)), chk_pos ((ib_nI (by omega)).mpr (by omega)), ix_nI (by omega)]
  rfl
/-- a counter set on both sides -/
theorem Mid.cnt {T : Td} {g0 g : Gs} {σ1 τ0 σ τ : Wd} {c i : Nat} {v : Int64} (h : Mid T g0 σ1 τ0 g σ τ) (hc : c < tN T) (hi : i < 4) : Mid T g0 σ1 τ0 (uV g (1 + i) c v.toInt32) (uL σ 29 (16 + 5 * i + c) v) (uI τ 26 (15 + 6 * c + (1 + i)) v.toInt32) := by
  have hI := h.2.2.2.2.2.2.1
  have hH := hI.1.2.2.2.1
  have hW := hI.1.1
  have hO := hI.1.2.1
  have hn := hI.1.2.2.2.2.1
  have eo : ∀ j c', j < 4 → ¬ (j = i ∧ c' = c) → iC (uV g (1 + i) c v.toInt32) j c' = iC g j c' := fun j c' hj hn => uV_o (by omega)
  have ei : ∀ j, j ≠ 0 ∧ 4 < j → ∀ w, (uV g (1 + i) c v.toInt32).2 j w = g.2 j w := fun j hj w => uV_o (by omega)
  have ex : ∀ w, iX (uV g (1 + i) c v.toInt32) w = iX g w := fun w => uV_o (by omega)
  have erf : ∀ w, iRf (uV g (1 + i) c v.toInt32) w = iRf g w := fun w => uV_o (by omega)
  have egt : ∀ w, iGt (uV g (1 + i) c v.toInt32) w = iGt g w := fun w => uV_o (by omega)
  have es : iC (uV g (1 + i) c v.toInt32) i c = v.toInt32 := uV_s
  refine h.up ?_ ?_ ?_ ?_ ?_ rfl rfl (fun q => ⟨fun w hw => ?_, q.2⟩)
  · refine ⟨by omega, by omega, by omega, by omega, by omega, by omega, by intro k hk e; have : k < 8 := Nat.lt_of_lt_of_le hk hH; omega, fun c' hc' => ⟨by omega, by omega, fun e => ?_, fun e => ?_, fun e => ?_, fun e => ?_⟩, fun s' hs' => ⟨by omega, by omega, by omega, fun o ho => ⟨by omega, by omega⟩⟩⟩
    · obtain ⟨rfl, rfl⟩ : i = 0 ∧ c' = c := by omega
      exact es.symm
    · obtain ⟨rfl, rfl⟩ : i = 1 ∧ c' = c := by omega
      exact es.symm
    · obtain ⟨rfl, rfl⟩ : i = 2 ∧ c' = c := by omega
      exact es.symm
    · obtain ⟨rfl, rfl⟩ : i = 3 ∧ c' = c := by omega
      exact es.symm
  · intro j x hj q
    obtain ⟨q1, q2, q3, q4, q5, q6, q7, q8, q9⟩ := q
    refine ⟨q1, q2, q3, q4, q5, q6, q7, fun c' hc' => ⟨(q8 c' hc').1, (q8 c' hc').2.1, fun e => ?_, fun e => ?_, fun e => ?_, fun e => ?_⟩, fun s' hs' => ⟨(q9 s' hs').1, fun e => ?_, fun e => ?_, (q9 s' hs').2.2.2⟩⟩
    · rw [eo 0 c' (by decide) (by omega)]; exact (q8 c' hc').2.2.1 e
    · rw [eo 1 c' (by decide) (by omega)]; exact (q8 c' hc').2.2.2.1 e
    · rw [eo 2 c' (by decide) (by omega)]; exact (q8 c' hc').2.2.2.2.1 e
    · rw [eo 3 c' (by decide) (by omega)]; exact (q8 c' hc').2.2.2.2.2 e
    · rw [erf]; exact (q9 s' hs').2.1 e
    · rw [egt]; exact (q9 s' hs').2.2.1 e
  · refine ⟨by omega, by omega, by omega, by omega, by omega, by intro k hk e; have : k < 8 := Nat.lt_of_lt_of_le hk hH; omega, fun c' hc' => ⟨by omega, fun j hj e => ?_⟩, fun s' hs' => ⟨by omega, by omega, by omega, fun o ho => ⟨by omega, by omega⟩⟩, fun w hw => ⟨by omega, by omega, by omega, by omega, by omega⟩, fun j hj => ⟨by omega, by omega⟩, fun c w hc hw e => by omega⟩
    obtain ⟨rfl, rfl⟩ : j = i ∧ c' = c := by omega
    exact es.symm
  · intro j x hj q
    obtain ⟨q1, q2, q3, q4, q5, q6, q7, q8, q9, q10, q11⟩ := q
    refine ⟨q1, q2, q3, q4, q5, q6, fun c' hc' => ⟨(q7 c' hc').1, fun m hm e => ?_⟩, fun s' hs' => ⟨(q8 s' hs').1, fun e => ?_, fun e => ?_, (q8 s' hs').2.2.2⟩, fun w hw => ⟨(q9 w hw).1, fun e => ?_, (q9 w hw).2.2⟩, q10, q11⟩
    · rw [eo m c' hm (by omega)]; exact (q7 c' hc').2 m hm e
    · rw [erf]; exact (q8 s' hs').2.1 e
    · rw [egt]; exact (q8 s' hs').2.2.1 e
    · rw [ex]; exact (q9 w hw).2.1 e
  · obtain ⟨i1, i2, i3, i4, i5, i6, i7, i8, i9, i10, i11, i12, i13, i14⟩ := hI
    exact ⟨i1, i2, i3, i4, i5, i6, i7, i8, i9, i10, i11, i12, fun j c' hj h1 h2 => (eo j c' hj (by omega)).trans (i13 j c' hj h1 h2), i14⟩
  · rw [ex]
    exact q.1 w hw
/-- the same addition to a counter -/
theorem Mid.add {T : Td} {g0 g : Gs} {σ1 τ0 σ τ : Wd} {c i : Nat} {d : Int64} (h : Mid T g0 σ1 τ0 g σ τ) (hc : c < tN T) (hi : i < 4) : ∃ g', Mid T g0 σ1 τ0 g' (uL σ 29 (16 + 5 * i + c) (gL σ 29 (16 + 5 * i + c) + d)) (uI τ 26 (15 + 6 * c + (1 + i)) (gI τ 26 (15 + 6 * c + (1 + i)) + d.toInt32)) ∧ (∀ a x y, g'.1 a x y = g.1 a x y) ∧ (∀ w, iX g' w = iX g w) := by
  have hn := h.2.2.2.2.2.2.1.1.2.2.2.2.1
  have e1 : (gL σ 29 (16 + 5 * i + c)).toInt32 = iC g i c := by
    have q := h.2.2.2.1.2.2.1 c (by omega)
    rcases (show i = 0 ∨ i = 1 ∨ i = 2 ∨ i = 3 by omega) with rfl | rfl | rfl | rfl
    · exact q.2.2.1
    · exact q.2.2.2.1
    · exact q.2.2.2.2.1
    · exact q.2.2.2.2.2
  have e2 : gI τ 26 (15 + 6 * c + (1 + i)) = iC g i c := by
    have q := (h.2.2.2.2.2.1.2.2.1 c (by omega)).2 i hi
    rwa [Nat.add_assoc] at q
  refine ⟨uV g (1 + i) c (iC g i c + d.toInt32), ?_, fun a x y => rfl, fun w => uV_o (t := 1 + i) (by omega)⟩
  have q := h.cnt (v := gL σ 29 (16 + 5 * i + c) + d) hc hi
  rw [Int64.toInt32_add, e1] at q
  rw [e2]
  exact q
theorem Mid.opens {T : Td} {g0 g : Gs} {σ1 τ0 σ τ : Wd} {c : Nat} (h : Mid T g0 σ1 τ0 g σ τ) (hc : c < tN T) : ∃ g' σ' τ', M_X1_openLog σ (nI c) = some σ' ∧ M_X9_opens τ (nI c) = some τ' ∧ Mid T g0 σ1 τ0 g' σ' τ' ∧ (∀ a x y, g'.1 a x y = g.1 a x y) ∧ (∀ w, iX g' w = iX g w) := by
  have hn := h.2.2.2.2.2.2.1.1.2.2.2.2.1
  obtain ⟨g', q1, q2, q3⟩ := h.add (d := 1) (i := 2) hc (by decide)
  refine ⟨g', _, _, ?_, ?_, q1, q2, q3⟩
  · unfold M_X1_openLog
    rw [show (26 : Int32) = nI 26 from rfl, nI_add, chk_pos ((ib_nI (by omega)).mpr (by omega)), chk_pos ((ib_nI (by omega)).mpr (by omega)), ix_nI (by omega)]
    rfl
  · unfold M_X9_opens
    rw [show (3 : Int32) = nI 3 from rfl, m_adds (by omega) (by decide)]
    rfl
/-- the list of the copies whose logs were closed of late, moved on -/
def shN {α : Type} (f : Nat → α) (b i : Nat) : Nat → α := fun k => if b + i < k ∧ k ≤ b + 7 then f (k - 1) else f k
theorem shN_7 {α : Type} {f : Nat → α} {b : Nat} : shN f b 7 = f := by
  funext k
  unfold shN
  rw [if_neg (by omega)]
theorem shN_s {f : Nat → Int32} {b i : Nat} (h0 : 0 < i) (h7 : i ≤ 7) : upd (shN f b i) (b + i) (shN f b i (b + i - 1)) = shN f b (i - 1) := by
  funext k
  unfold upd shN
  by_cases h : k = b + i
  · subst h
    rw [if_pos rfl, if_neg (by omega), if_pos (by omega)]
  · rw [if_neg h]
    by_cases h2 : b + i < k ∧ k ≤ b + 7
    · rw [if_pos h2, if_pos (by omega)]
    · rw [if_neg h2, if_neg (by omega)]
theorem shL_s {f : Nat → Int64} {b i : Nat} (h0 : 0 < i) (h7 : i ≤ 7) : vp_updL (shN f b i) (b + i) (shN f b i (b + i - 1)) = shN f b (i - 1) := by
  funext k
  unfold vp_updL shN
  by_cases h : k = b + i
  · subst h
    rw [if_pos rfl, if_neg (by omega), if_pos (by omega)]
  · rw [if_neg h]
    by_cases h2 : b + i < k ∧ k ≤ b + 7
    · rw [if_pos h2, if_pos (by omega)]
    · rw [if_neg h2, if_neg (by omega)]
theorem rL_self {σ : Wd} {c : Nat} : rL σ c (σ.2.1 c) = σ := by
  obtain ⟨a, b, d⟩ := σ
  unfold rL
  congr 2
  funext x
  by_cases h : x = c
  · subst h; simp
  · simp [h]
theorem rL_rL {σ : Wd} {c : Nat} {f g : Nat → Int64} : rL (rL σ c f) c g = rL σ c g := by
  unfold rL
  congr 2
  funext a
  by_cases h : a = c <;> simp [h]
theorem uL_rL {σ : Wd} {c k : Nat} {f : Nat → Int64} {v : Int64} : uL (rL σ c f) c k v = rL σ c (vp_updL f k v) := by
  unfold uL
  rw [rL_at, rL_rL]
theorem nI_m1 {i : Nat} (h : 0 < i) : nI i + -1 = nI (i - 1) := by
  rw [← nI_pred1 h, Int32.sub_eq_add_neg]
theorem m_sh {τ : Wd} {v : Int32} : iter (fun s : Int32 × Wd => M_X9_shuts_L10 v s.1 s.2) FU ((7 : Int32), τ) = some (rI τ 26 (shN (τ.1 26) 5 0)) := by
  obtain ⟨x, h1, h2⟩ := ow_iter (body := fun s : Int32 × Wd => M_X9_shuts_L10 v s.1 s.2) (Q := fun x => x = rI τ 26 (shN (τ.1 26) 5 0)) (fun i s => i ≤ 7 ∧ s = (nI i, rI τ 26 (shN (τ.1 26) 5 i))) (fun i s ⟨hi, hs⟩ => by
    subst hs
    show ow (M_X9_shuts_L10 v (nI i) (rI τ 26 (shN (τ.1 26) 5 i))) _
    unfold M_X9_shuts_L10
    by_cases h0 : i = 0
    · subst h0
      rw [if_pos (by decide)]
      exact ow_some.mpr rfl
    · rw [if_neg (by rw [show (0 : Int32) = nI 0 from rfl, nI_leI (by omega) (by omega)]; omega), show (5 : Int32) = nI 5 from rfl, nI_add, nI_pred1 (by omega), chk_pos ((ib_nI (by omega)).mpr (by omega)), chk_pos ((ib_nI (by omega)).mpr (by omega)), ix_nI (by omega), ix_nI (by omega), nI_m1 (by omega)]
      simp only [lt_eq]
      rw [uI_rI, gI_rI, if_pos rfl, shN_s (by omega) hi]
      exact ow_some.mpr ⟨i - 1, by omega, by omega, rfl⟩) FU 7 ((7 : Int32), τ) (FU_big (by decide)) ⟨Nat.le_refl _, by rw [shN_7, rI_self]; rfl⟩
  rw [h1, h2]
theorem c_sh {σ : Wd} {v : Int32} : iter (fun s : Int32 × Wd => M_X1_closeLog_L16 v s.1 s.2) FU ((7 : Int32), σ) = some (rL σ 29 (shN (σ.2.1 29) 36 0)) := by
  obtain ⟨x, h1, h2⟩ := ow_iter (body := fun s : Int32 × Wd => M_X1_closeLog_L16 v s.1 s.2) (Q := fun x => x = rL σ 29 (shN (σ.2.1 29) 36 0)) (fun i s => i ≤ 7 ∧ s = (nI i, rL σ 29 (shN (σ.2.1 29) 36 i))) (fun i s ⟨hi, hs⟩ => by
    subst hs
    show ow (M_X1_closeLog_L16 v (nI i) (rL σ 29 (shN (σ.2.1 29) 36 i))) _
    unfold M_X1_closeLog_L16
    by_cases h0 : i = 0
    · subst h0
      rw [if_pos (by decide)]
      exact ow_some.mpr rfl
    · rw [if_neg (by rw [show (0 : Int32) = nI 0 from rfl, nI_leI (by omega) (by omega)]; omega), show (36 : Int32) = nI 36 from rfl, nI_add, nI_pred1 (by omega), chk_pos ((ib_nI (by omega)).mpr (by omega)), chk_pos ((ib_nI (by omega)).mpr (by omega)), ix_nI (by omega), ix_nI (by omega), nI_m1 (by omega)]
      simp only [lt_eq]
      rw [uL_rL, gL_rL, if_pos rfl, shL_s (by omega) hi]
      exact ow_some.mpr ⟨i - 1, by omega, by omega, rfl⟩) FU 7 ((7 : Int32), σ) (FU_big (by decide)) ⟨Nat.le_refl _, by rw [shN_7, rL_self]; rfl⟩
  rw [h1, h2]
/-- a copy's number put before the list -/
def sG (g : Gs) (c : Nat) : Gs := (fun a x y => if a = 5 then (if x = 0 then c else g.1 5 (x - 1) y) else if a = 4 then min 8 (g.1 4 0 0 + 1) else g.1 a x y, g.2)
theorem CR_sh {n c : Nat} {g : Gs} {r r' : Nat → Int64} (hH : gH g ≤ 8) (h5 : r' 5 = lN (min 8 (gH g + 1))) (h36 : r' 36 = lN c) (hs : ∀ k, 1 ≤ k → k < 8 → r' (36 + k) = r (36 + (k - 1))) (ho : ∀ j, j ≠ 5 → (j < 36 ∨ 44 ≤ j) → r' j = r j) (h : CR n g r) : CR n (sG g c) r' := by
  obtain ⟨⟨a1, a2, a3, a4, a5, a6⟩, b, d, e⟩ := h
  refine ⟨⟨(ho _ (by decide) (by decide)).trans a1, (ho _ (by decide) (by decide)).trans a2, (ho _ (by decide) (by decide)).trans a3, (ho _ (by decide) (by decide)).trans a4, (ho _ (by decide) (by decide)).trans a5, h5⟩, fun k hk => ?_, fun q hq => ?_, fun s hs => ?_⟩
  · have hk : k < min 8 (gH g + 1) := hk
    by_cases h0 : k = 0
    · subst h0
      exact h36
    · rw [show gh (sG g c) k = gh g (k - 1) from if_neg h0, hs k (by omega) (by omega)]
      exact b (k - 1) (by omega)
  · obtain ⟨c1, c2, c3, c4, c5, c6⟩ := d q hq
    exact ⟨fun w hw => by rw [ho _ (by omega) (by omega)]; exact c1 w hw, (ho _ (by omega) (by omega)).trans c2, by rw [ho _ (by omega) (by omega)]; exact c3, by rw [ho _ (by omega) (by omega)]; exact c4, by rw [ho _ (by omega) (by omega)]; exact c5, by rw [ho _ (by omega) (by omega)]; exact c6⟩
  · obtain ⟨d1, d2, d3, d4⟩ := e s hs
    exact ⟨(ho _ (by omega) (by omega)).trans d1, by rw [ho _ (by omega) (by omega)]; exact d2, by rw [ho _ (by omega) (by omega)]; exact d3, fun o ho' => ⟨(ho _ (by omega) (by omega)).trans (d4 o ho').1, (ho _ (by omega) (by omega)).trans (d4 o ho').2⟩⟩
theorem MR_sh {c : Nat} {g : Gs} {r r' : Nat → Int32} (hH : gH g ≤ 8) (h5 : r' 4 = nI (min 8 (gH g + 1))) (h36 : r' 5 = nI c) (hs : ∀ k, 1 ≤ k → k < 8 → r' (5 + k) = r (5 + (k - 1))) (ho : ∀ j, (j < 4 ∨ 13 ≤ j) → r' j = r j) (h : MR g r) : MR (sG g c) r' := by
  obtain ⟨⟨a1, a2, a3, a4, a5⟩, b, d, e, f, k, a⟩ := h
  refine ⟨⟨(ho _ (by decide)).trans a1, (ho _ (by decide)).trans a2, (ho _ (by decide)).trans a3, (ho _ (by decide)).trans a4, h5⟩, fun k hk => ?_, fun q hq => ⟨(ho _ (by omega)).trans (d q hq).1, fun i hi => (ho _ (by omega)).trans ((d q hq).2 i hi)⟩, fun s hs => ?_, fun w hw => ?_, fun i hi => ⟨(ho _ (by omega)).trans (k i hi).1, (ho _ (by omega)).trans (k i hi).2⟩, fun c w hc hw => (ho _ (by omega)).trans (a c w hc hw)⟩
  · have hk : k < min 8 (gH g + 1) := hk
    by_cases h0 : k = 0
    · subst h0
      exact h36
    · rw [show gh (sG g c) k = gh g (k - 1) from if_neg h0, hs k (by omega) (by omega)]
      exact b (k - 1) (by omega)
  · obtain ⟨d1, d2, d3, d4⟩ := e s hs
    exact ⟨(ho _ (by omega)).trans d1, (ho _ (by omega)).trans d2, (ho _ (by omega)).trans d3, fun o ho' => ⟨(ho _ (by omega)).trans (d4 o ho').1, (ho _ (by omega)).trans (d4 o ho').2⟩⟩
  · obtain ⟨d1, d2, d3, d4, d5⟩ := f w hw
    exact ⟨(ho _ (by omega)).trans d1, (ho _ (by omega)).trans d2, (ho _ (by omega)).trans d3, (ho _ (by omega)).trans d4, fun q => (ho _ (by omega)).trans (d5 q)⟩
