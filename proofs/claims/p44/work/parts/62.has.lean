/-! what a copy has, set anew on both sides; how many it knows; the order given -/
def uA (g : Gs) (a b : Nat) : Gs := (fun t x y => if t = 11 ∧ x = b ∧ g.1 11 a y = 1 then 1 else g.1 t x y, g.2)
theorem uA_A {g : Gs} {a b c w : Nat} : gA (uA g a b) c w = if c = b ∧ gA g a w = 1 then 1 else gA g c w := by
  show (if 11 = 11 ∧ c = b ∧ g.1 11 a w = 1 then 1 else g.1 11 c w) = _
  by_cases h : c = b ∧ gA g a w = 1
  · rw [if_pos h, if_pos ⟨rfl, h⟩]
  · rw [if_neg h, if_neg (fun z => h z.2)]
theorem uA_o {g : Gs} {a b t x y : Nat} (h : t ≠ 11) : (uA g a b).1 t x y = g.1 t x y := if_neg (fun z => h z.1)
theorem MR_has {g g' : Gs} {n m : Nat} {r f : Nat → Int32} (hI : Inv n m g) (h0 : ∀ t x y, t ≠ 11 → g'.1 t x y = g.1 t x y) (h2 : g'.2 = g.2) (hl : ∀ j, j < 470 → f j = r j) (hA : ∀ c w, c < 5 → w < 60 → f (470 + 60 * c + w) = nI (gA g' c w)) (h : MR g r) : MR g' f := by
  obtain ⟨⟨a1, a2, a3, a4, a5⟩, b, c, d, e, k, a⟩ := h
  have hW := hI.1.1
  have hO := hI.1.2.1
  have hH := hI.1.2.2.2.1
  have hD := hI.2.2.2.2.2.2.2.1
  have eW : gW g' = gW g := h0 _ _ _ (by decide)
  have eO : gO g' = gO g := h0 _ _ _ (by decide)
  have eH : gH g' = gH g := h0 _ _ _ (by decide)
  have e2 : ∀ x y, g'.2 x y = g.2 x y := fun x y => by rw [h2]
  refine ⟨⟨?_, ?_, ?_, ?_, ?_⟩, fun i hi => ?_, fun i hi => ⟨?_, fun j hj => ?_⟩, fun s hs => ⟨?_, ?_, ?_, fun o ho => ⟨?_, ?_⟩⟩, fun w hw => ⟨?_, ?_, ?_, ?_, fun q => ?_⟩, fun i hi => ⟨?_, ?_⟩, hA⟩
  · rw [hl _ (by omega), eW]; exact a1
  · rw [hl _ (by omega), eO]; exact a2
  · rw [hl _ (by omega), show gP g' = gP g from h0 _ _ _ (by decide)]; exact a3
  · rw [hl _ (by omega), show gC g' = gC g from h0 _ _ _ (by decide)]; exact a4
  · rw [hl _ (by omega), eH]; exact a5
  · rw [eH] at hi
    rw [hl _ (by omega), show gh g' i = gh g i from h0 _ _ _ (by decide)]; exact b i hi
  · rw [hl _ (by omega), show gK g' i = gK g i from h0 _ _ _ (by decide)]; exact (c i hi).1
  · rw [hl _ (by omega), show iC g' j i = iC g j i from e2 _ _]; exact (c i hi).2 j hj
  · rw [hl _ (by omega), show gQ g' s = gQ g s from h0 _ _ _ (by decide)]; exact (d s hs).1
  · rw [hl _ (by omega), show iRf g' s = iRf g s from e2 _ _]; exact (d s hs).2.1
  · rw [hl _ (by omega), show iGt g' s = iGt g s from e2 _ _]; exact (d s hs).2.2.1
  · rw [hl _ (by omega), show gE g' s o = gE g s o from h0 _ _ _ (by decide)]; exact ((d s hs).2.2.2 o ho).1
  · rw [hl _ (by omega), show gU g' s o = gU g s o from h0 _ _ _ (by decide)]; exact ((d s hs).2.2.2 o ho).2
  · rw [eW] at hw; rw [hl _ (by omega), show gF g' w = gF g w from h0 _ _ _ (by decide)]; exact (e w hw).1
  · rw [eW] at hw; rw [hl _ (by omega), show iX g' w = iX g w from e2 _ _]; exact (e w hw).2.1
  · rw [eW] at hw; rw [hl _ (by omega), show gN g' w = gN g w from h0 _ _ _ (by decide)]; exact (e w hw).2.2.1
  · rw [eW] at hw; rw [hl _ (by omega), show gS g' w = gS g w from h0 _ _ _ (by decide)]; exact (e w hw).2.2.2.1
  · rw [eW] at hw
    rw [hl _ (by omega)]
    refine (e w hw).2.2.2.2 (fun i hi => ?_)
    have := q i (by rw [eO]; exact hi)
    rwa [show gD g' i = gD g i from h0 _ _ _ (by decide)] at this
  · rw [eO] at hi; rw [hl _ (by omega), show gD g' i = gD g i from h0 _ _ _ (by decide)]; exact (k i hi).1
  · rw [eO] at hi
    rw [show gD g' i = gD g i from h0 _ _ _ (by decide)]
    have := hD i hi
    rw [hl _ (by omega)]; exact (k i hi).2
theorem Mid.has {T : Td} {g0 g : Gs} {σ1 τ0 σ τ : Wd} {a b : Nat} (h : Mid T g0 σ1 τ0 g σ τ) (ha : a < tN T) (hb : b < tN T) : Mid T g0 σ1 τ0 (uA g a b) (uL σ 29 (6 + b) (gL σ 29 (6 + b) ||| gL σ 29 (6 + a))) (rI τ 26 (brF g a b (τ.1 26) (gW g))) := by
  obtain ⟨f1, f2, f3, f4, f5, f6, hI, w, o⟩ := h
  have hW := hI.1.1
  have hn := hI.1.2.2.2.2.1
  have hH := hI.1.2.2.2.1
  have hA01 := hI.2.2.2.2.1
  have hAw := hI.2.2.2.2.2.1
  refine ⟨f1.row, KM.wI rfl (by decide) f2, by rw [gI_rI, if_neg (by decide)]; exact f3, ?_, ?_, ?_, ?_, w, o⟩
  · rw [row_uL]
    refine CR_up f4 ?_ ?_
    · refine ⟨by omega, by omega, by omega, by omega, by omega, by omega, by intro k hk e; have : k < 8 := Nat.lt_of_lt_of_le hk hH; omega, fun c hc => ⟨fun e w hw => ?_, by omega, by omega, by omega, by omega, by omega⟩, fun s' hs' => ⟨by omega, by omega, by omega, fun o ho => ⟨by omega, by omega⟩⟩⟩
      obtain rfl : c = b := by omega
      rw [Int64.toBitVec_or, BitVec.getLsbD_or, show (gL σ 29 (6 + c)).toBitVec.getLsbD w = decide (w < 60 ∧ gA g c w = 1) from (f4.2.2.1 c (by omega)).1 w hw, show (gL σ 29 (6 + a)).toBitVec.getLsbD w = decide (w < 60 ∧ gA g a w = 1) from (f4.2.2.1 a (by omega)).1 w hw, uA_A]
      by_cases h1 : gA g a w = 1
      · rw [if_pos ⟨rfl, h1⟩]
        by_cases h2 : w < 60 <;> simp [h1, h2]
      · rw [if_neg (fun z => h1 z.2)]
        simp [h1]
    · intro j x hj q
      obtain ⟨q1, q2, q3, q4, q5, q6, q7, q8, q9⟩ := q
      refine ⟨q1, q2, q3, q4, q5, q6, q7, fun c hc => ⟨fun e w hw => ?_, (q8 c hc).2⟩, q9⟩
      rw [uA_A, if_neg (fun z => by omega)]
      exact (q8 c hc).1 e w hw
  · exact f5
  · rw [rI_at]
    refine MR_has hI (fun t x y ht => uA_o ht) rfl (fun j hj => brF_o (by omega)) (fun c w hc hw => ?_) f6
    have hr : τ.1 26 (470 + 60 * c + w) = nI (gA g c w) := f6.2.2.2.2.2.2 c w hc hw
    rw [uA_A]
    by_cases hcb : c = b
    · subst hcb
      by_cases h1 : gA g a w = 1
      · rw [if_pos ⟨rfl, h1⟩]
        exact if_pos ⟨by omega, by have := (hAw a w h1).1; omega, by rw [show 470 + 60 * c + w - (470 + 60 * c) = w by omega]; exact h1⟩
      · rw [if_neg (fun z => h1 z.2)]
        refine (if_neg (fun z => h1 ?_)).trans hr
        have := z.2.2
        rwa [show 470 + 60 * c + w - (470 + 60 * c) = w by omega] at this
    · rw [if_neg (fun z => hcb z.1), brF_o (by omega)]
      exact hr
  · obtain ⟨i1, i2, i3, i4, i5, i6, i7, i8, i9, i10, i11, i12, i13, i14⟩ := hI
    refine ⟨i1, i2, i3, i4, fun c w => ?_, fun c w => ?_, fun c i hc hi => ?_, i8, i9, fun w hw => ?_, i11, i12, i13, i14⟩
    · rw [uA_A]
      by_cases q : c = b ∧ gA g a w = 1
      · rw [if_pos q]; omega
      · rw [if_neg q]; exact i5 c w
    · rw [uA_A]
      by_cases q : c = b ∧ gA g a w = 1
      · rw [if_pos q]
        intro _
        exact ⟨(i6 a w q.2).1, by rw [q.1]; exact hb⟩
      · rw [if_neg q]; exact i6 c w
    · rw [uA_A]
      by_cases q : c = b ∧ gA g a (gD (uA g a b) i) = 1
      · rw [if_pos q]
      · rw [if_neg q]; exact i7 c i hc hi
    · obtain ⟨z1, z2, z3, z4, z5⟩ := i10 w hw
      refine ⟨z1, z2, z3, z4, ?_⟩
      rw [uA_A]
      by_cases q : gN (uA g a b) w = b ∧ gA g a w = 1
      · rw [if_pos q]
      · rw [if_neg q]; exact z5
/-- how many it knows -/
theorem Mid.know {T : Td} {g0 g : Gs} {σ1 τ0 σ τ : Wd} {b v : Nat} (h : Mid T g0 σ1 τ0 g σ τ) (hb : b < tN T) (hv : v ≤ gO g) (hP : b = gP g → v = gO g) (hA : ∀ i, i < v → gA g b (gD g i) = 1) : Mid T g0 σ1 τ0 (uG g 6 b 0 v) (uL σ 29 (11 + b) (lN v)) (uI τ 26 (15 + 6 * b) (nI v)) := by
  have hI := h.2.2.2.2.2.2.1
  have hH := hI.1.2.2.2.1
  have hW := hI.1.1
  have hO := hI.1.2.1
  have hn := hI.1.2.2.2.2.1
  have eK : ∀ c, gK (uG g 6 b 0 v) c = if c = b then v else gK g c := fun c => by
    by_cases q : c = b
    · subst q; rw [if_pos rfl]; exact uG_s
    · rw [if_neg q]; exact uG_o (by omega)
  refine h.up ?_ ?_ ?_ ?_ ?_ rfl rfl (fun q => q)
  · refine ⟨by omega, by omega, by omega, by omega, by omega, by omega, by intro k hk e; have : k < 8 := Nat.lt_of_lt_of_le hk hH; omega, fun c hc => ⟨by omega, fun e => ?_, by omega, by omega, by omega, by omega⟩, fun s' hs' => ⟨by omega, by omega, by omega, fun o ho => ⟨by omega, by omega⟩⟩⟩
    rw [eK, if_pos (by omega)]
  · intro j x hj q
    obtain ⟨q1, q2, q3, q4, q5, q6, q7, q8, q9⟩ := q
    refine ⟨q1, q2, q3, q4, q5, q6, q7, fun c hc => ⟨(q8 c hc).1, fun e => ?_, (q8 c hc).2.2⟩, q9⟩
    rw [eK, if_neg (by omega)]
    exact (q8 c hc).2.1 e
  · refine ⟨by omega, by omega, by omega, by omega, by omega, by intro k hk e; have : k < 8 := Nat.lt_of_lt_of_le hk hH; omega, fun c hc => ⟨fun e => ?_, fun i hi e => by omega⟩, fun s' hs' => ⟨by omega, by omega, by omega, fun o ho => ⟨by omega, by omega⟩⟩, fun w hw => ⟨by omega, by omega, by omega, by omega, by omega⟩, fun i hi => ⟨by omega, by omega⟩, fun c w hc hw e => by omega⟩
    rw [eK, if_pos (by omega)]
  · intro j x hj q
    obtain ⟨q1, q2, q3, q4, q5, q6, q7, q8, q9, q10, q11⟩ := q
    refine ⟨q1, q2, q3, q4, q5, q6, fun c hc => ⟨fun e => ?_, (q7 c hc).2⟩, q8, q9, q10, q11⟩
    rw [eK, if_neg (by omega)]
    exact (q7 c hc).1 e
  · obtain ⟨i1, i2, i3, i4, i5, i6, i7, i8, i9, i10, i11, i12, i13, i14⟩ := hI
    refine ⟨i1, i2, fun c hc => ?_, ?_, i5, i6, fun c i hc hi => ?_, i8, i9, i10, i11, i12, i13, fun c hc => ?_⟩
    · rw [eK]
      by_cases q : c = b
      · rw [if_pos q]; exact hv
      · rw [if_neg q]; exact i3 c hc
    · show gK (uG g 6 b 0 v) (gP g) = gO g
      rw [eK]
      by_cases q : gP g = b
      · rw [if_pos q]; exact hP q.symm
      · rw [if_neg q]; exact i4
    · rw [eK] at hi
      by_cases q : c = b
      · rw [if_pos q] at hi; subst q; exact hA i hi
      · rw [if_neg q] at hi; exact i7 c i hc hi
    · rw [eK, if_neg (by omega)]; exact i14 c hc
