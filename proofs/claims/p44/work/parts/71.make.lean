/-! a write made -/
theorem clkN_W {g : Gs} {n m c : Nat} (hI : Inv n m g) : ∀ k, k ≤ gW g → clkN g c k ≤ k := by
  intro k
  induction k with
  | zero => intro _; exact Nat.le_refl _
  | succ k ih =>
    intro hk
    have q := hI.2.2.2.2.2.2.2.2.2.1 k (by omega)
    have := ih (by omega)
    show (if gA g c k = 1 then max (clkN g c k) (gS g k) else clkN g c k) ≤ k + 1
    by_cases h : gA g c k = 1
    · rw [if_pos h]; omega
    · rw [if_neg h]; omega
theorem clkN_ge {g : Gs} {c w : Nat} (hA : gA g c w = 1) : ∀ k, w < k → gS g w ≤ clkN g c k := by
  intro k
  induction k with
  | zero => intro h; omega
  | succ k ih =>
    intro h
    show gS g w ≤ (if gA g c k = 1 then max (clkN g c k) (gS g k) else clkN g c k)
    by_cases hk : w = k
    · subst hk; rw [if_pos hA]; omega
    · have := ih (by omega)
      by_cases h2 : gA g c k = 1
      · rw [if_pos h2]; omega
      · rw [if_neg h2]; omega
def aG (g : Gs) (c f s : Nat) (x : Int32) : Gs := (fun t a b => if t = 0 then g.1 0 0 0 + 1 else if t = 7 ∧ a = g.1 0 0 0 then f else if t = 8 ∧ a = g.1 0 0 0 then c else if t = 9 ∧ a = g.1 0 0 0 then s else if t = 11 ∧ a = c ∧ b = g.1 0 0 0 then 1 else g.1 t a b, fun t a => if t = 0 ∧ a = g.1 0 0 0 then x else g.2 t a)
section AG
variable {g : Gs} {c f s : Nat} {x : Int32}
theorem aG_o {t a b : Nat} (h0 : t ≠ 0) (h1 : a ≠ gW g ∨ (t ≠ 7 ∧ t ≠ 8 ∧ t ≠ 9)) (h2 : t ≠ 11) : (aG g c f s x).1 t a b = g.1 t a b := by
  show (if t = 0 then g.1 0 0 0 + 1 else if t = 7 ∧ a = g.1 0 0 0 then f else if t = 8 ∧ a = g.1 0 0 0 then c else if t = 9 ∧ a = g.1 0 0 0 then s else if t = 11 ∧ a = c ∧ b = g.1 0 0 0 then 1 else g.1 t a b) = _
  rw [if_neg h0, if_neg (fun z => by rcases h1 with h | h; exact h z.2; exact h.1 z.1), if_neg (fun z => by rcases h1 with h | h; exact h z.2; exact h.2.1 z.1), if_neg (fun z => by rcases h1 with h | h; exact h z.2; exact h.2.2 z.1), if_neg (fun z => h2 z.1)]
theorem aG_F : gF (aG g c f s x) (gW g) = f := by
  show (aG g c f s x).1 7 (g.1 0 0 0) 0 = f
  unfold aG
  simp
theorem aG_N : gN (aG g c f s x) (gW g) = c := by
  show (aG g c f s x).1 8 (g.1 0 0 0) 0 = c
  unfold aG
  simp
theorem aG_S : gS (aG g c f s x) (gW g) = s := by
  show (aG g c f s x).1 9 (g.1 0 0 0) 0 = s
  unfold aG
  simp
theorem aG_A {a b : Nat} : gA (aG g c f s x) a b = if a = c ∧ b = gW g then 1 else gA g a b := by
  show (aG g c f s x).1 11 a b = if a = c ∧ b = g.1 0 0 0 then 1 else g.1 11 a b
  unfold aG
  simp
theorem aG_X : iX (aG g c f s x) (gW g) = x := if_pos ⟨rfl, rfl⟩
theorem aG_V {t a : Nat} (h : t ≠ 0 ∨ a ≠ gW g) : (aG g c f s x).2 t a = g.2 t a := if_neg (fun z => by rcases h with h | h; exact h z.1; exact h z.2)
end AG
theorem Inv_w {g : Gs} {n m c f : Nat} {x : Int32} (hI : Inv n m g) (hW : gW g < 60) (hc : c < n) (hf : f < m) : Inv n m (aG g c f (clkN g c (gW g) + 1) x) := by
  have hcl := clkN_W (c := c) hI (gW g) (Nat.le_refl _)
  obtain ⟨i1, i2, i3, i4, i5, i6, i7, i8, i9, i10, i11, i12, i13, i14⟩ := hI
  have eO : gO (aG g c f (clkN g c (gW g) + 1) x) = gO g := rfl
  have eD : ∀ i, gD (aG g c f (clkN g c (gW g) + 1) x) i = gD g i := fun i => aG_o (by decide) (Or.inr (by decide)) (by decide)
  have eK : ∀ i, gK (aG g c f (clkN g c (gW g) + 1) x) i = gK g i := fun i => aG_o (by decide) (Or.inr (by decide)) (by decide)
  refine ⟨⟨show gW g + 1 ≤ 60 by omega, show gO g ≤ gW g + 1 by omega, i1.2.2⟩, i2, i3, i4, fun a b => ?_, fun a b => ?_, fun a i ha hi => ?_, fun i hi => ?_, fun i j hi hj e => ?_, fun w hw => ?_, fun w v hwv hv e => ?_, i12, fun j a hj h1 h2 => (aG_V (Or.inl (by omega))).trans (i13 j a hj h1 h2), i14⟩
  · rw [aG_A]
    by_cases q : a = c ∧ b = gW g
    · rw [if_pos q]; omega
    · rw [if_neg q]; exact i5 a b
  · rw [aG_A]
    by_cases q : a = c ∧ b = gW g
    · rw [if_pos q]
      intro _
      exact ⟨show b < gW g + 1 by omega, by omega⟩
    · rw [if_neg q]
      intro z
      have := i6 a b z
      exact ⟨show b < gW g + 1 by omega, this.2⟩
  · rw [eK] at hi
    rw [eD, aG_A]
    by_cases q : a = c ∧ gD g i = gW g
    · rw [if_pos q]
    · rw [if_neg q]; exact i7 a i ha hi
  · rw [eD]
    have := i8 i hi
    show gD g i < gW g + 1
    omega
  · rw [eD, eD] at e
    exact i9 i j hi hj e
  · have hw : w < gW g + 1 := hw
    by_cases q : w = gW g
    · subst q
      rw [aG_F, aG_N, aG_S, aG_A, if_pos ⟨rfl, rfl⟩]
      exact ⟨hf, hc, by omega, by omega, rfl⟩
    · obtain ⟨z1, z2, z3, z4, z5⟩ := i10 w (by omega)
      rw [show gF (aG g c f (clkN g c (gW g) + 1) x) w = gF g w from aG_o (by decide) (Or.inl q) (by decide), show gN (aG g c f (clkN g c (gW g) + 1) x) w = gN g w from aG_o (by decide) (Or.inl q) (by decide), show gS (aG g c f (clkN g c (gW g) + 1) x) w = gS g w from aG_o (by decide) (Or.inl q) (by decide), aG_A, if_neg (fun z => q z.2)]
      exact ⟨z1, z2, z3, z4, z5⟩
  · have hv : v < gW g + 1 := hv
    rw [show gN (aG g c f (clkN g c (gW g) + 1) x) w = gN g w from aG_o (by decide) (Or.inl (by omega)) (by decide)] at e
    rw [show gS (aG g c f (clkN g c (gW g) + 1) x) w = gS g w from aG_o (by decide) (Or.inl (by omega)) (by decide)]
    by_cases q : v = gW g
    · subst q
      rw [aG_N] at e
      rw [aG_S]
      have hA := (i10 w (by omega)).2.2.2.2
      rw [e] at hA
      have := clkN_ge hA (gW g) hwv
      omega
    · rw [show gN (aG g c f (clkN g c (gW g) + 1) x) v = gN g v from aG_o (by decide) (Or.inl q) (by decide)] at e
      rw [show gS (aG g c f (clkN g c (gW g) + 1) x) v = gS g v from aG_o (by decide) (Or.inl q) (by decide)]
      exact i11 w v hwv (by omega) e
theorem MR_w {g : Gs} {n m c f s : Nat} {x : Int32} {r : Nat → Int32} (hI : Inv n m g) (hW : gW g < 60) (hc : c < 5) (h : MR g r) : MR (aG g c f s x) (upd (upd (upd (upd (upd (upd (upd r 0 (nI (gW g + 1))) (110 + 5 * gW g) (nI f)) (110 + 5 * gW g + 1) x) (110 + 5 * gW g + 2) (nI c)) (110 + 5 * gW g + 3) (nI s)) (110 + 5 * gW g + 4) (-2)) (470 + 60 * c + gW g) 1) := by
  have eo : ∀ j, j ≠ 0 → j ≠ 110 + 5 * gW g → j ≠ 110 + 5 * gW g + 1 → j ≠ 110 + 5 * gW g + 2 → j ≠ 110 + 5 * gW g + 3 → j ≠ 110 + 5 * gW g + 4 → j ≠ 470 + 60 * c + gW g → (upd (upd (upd (upd (upd (upd (upd r 0 (nI (gW g + 1))) (110 + 5 * gW g) (nI f)) (110 + 5 * gW g + 1) x) (110 + 5 * gW g + 2) (nI c)) (110 + 5 * gW g + 3) (nI s)) (110 + 5 * gW g + 4) (-2)) (470 + 60 * c + gW g) 1) j = r j := fun j h0 h1 h2 h3 h4 h5 h6 => by rw [pk_un h6, pk_un h5, pk_un h4, pk_un h3, pk_un h2, pk_un h1, pk_un h0]
  have hH := hI.1.2.2.2.1
  have hO := hI.1.2.1
  have hD := hI.2.2.2.2.2.2.2.1
  obtain ⟨⟨a1, a2, a3, a4, a5⟩, b, d, e, w0, k, a⟩ := h
  have vC : ∀ j q, iC (aG g c f s x) j q = iC g j q := fun j q => aG_V (Or.inl (by omega))
  have vR : ∀ q, iRf (aG g c f s x) q = iRf g q := fun q => aG_V (Or.inl (by decide))
  have vG : ∀ q, iGt (aG g c f s x) q = iGt g q := fun q => aG_V (Or.inl (by decide))
  refine ⟨⟨?_, ?_, ?_, ?_, ?_⟩, fun i hi => ?_, fun i hi => ⟨?_, fun j hj => ?_⟩, fun q hq => ⟨?_, ?_, ?_, fun o ho => ⟨?_, ?_⟩⟩, fun w hw => ?_, fun i hi => ?_, fun q w hq hw => ?_⟩
  · rw [pk_un (by omega), pk_un (by omega), pk_un (by omega), pk_un (by omega), pk_un (by omega), pk_un (by omega), pk_us]; rfl
  · rw [eo _ (by omega) (by omega) (by omega) (by omega) (by omega) (by omega) (by omega)]; exact a2
  · rw [eo _ (by omega) (by omega) (by omega) (by omega) (by omega) (by omega) (by omega)]; exact a3
  · rw [eo _ (by omega) (by omega) (by omega) (by omega) (by omega) (by omega) (by omega)]; exact a4
  · rw [eo _ (by omega) (by omega) (by omega) (by omega) (by omega) (by omega) (by omega)]; exact a5
  · have hi : i < gH g := hi
    rw [eo _ (by omega) (by omega) (by omega) (by omega) (by omega) (by omega) (by omega)]; exact b i hi
  · rw [eo _ (by omega) (by omega) (by omega) (by omega) (by omega) (by omega) (by omega)]; exact (d i hi).1
  · rw [eo _ (by omega) (by omega) (by omega) (by omega) (by omega) (by omega) (by omega), vC]; exact (d i hi).2 j hj
  · rw [eo _ (by omega) (by omega) (by omega) (by omega) (by omega) (by omega) (by omega)]; exact (e q hq).1
  · rw [eo _ (by omega) (by omega) (by omega) (by omega) (by omega) (by omega) (by omega), vR]; exact (e q hq).2.1
  · rw [eo _ (by omega) (by omega) (by omega) (by omega) (by omega) (by omega) (by omega), vG]; exact (e q hq).2.2.1
  · rw [eo _ (by omega) (by omega) (by omega) (by omega) (by omega) (by omega) (by omega)]; exact ((e q hq).2.2.2 o ho).1
  · rw [eo _ (by omega) (by omega) (by omega) (by omega) (by omega) (by omega) (by omega)]; exact ((e q hq).2.2.2 o ho).2
  · have hw : w < gW g + 1 := hw
    by_cases q : w = gW g
    · subst q
      rw [aG_F, aG_N, aG_S, aG_X]
      refine ⟨?_, ?_, ?_, ?_, fun _ => ?_⟩
      · rw [pk_un (by omega), pk_un (by omega), pk_un (by omega), pk_un (by omega), pk_un (by omega), pk_us]
      · rw [pk_un (by omega), pk_un (by omega), pk_un (by omega), pk_un (by omega), pk_us]
      · rw [pk_un (by omega), pk_un (by omega), pk_un (by omega), pk_us]
      · rw [pk_un (by omega), pk_un (by omega), pk_us]
      · rw [pk_un (by omega), pk_us]
    · obtain ⟨e1, e2, e3, e4, e5⟩ := w0 w (by omega)
      rw [show gF (aG g c f s x) w = gF g w from aG_o (by decide) (Or.inl q) (by decide), show gN (aG g c f s x) w = gN g w from aG_o (by decide) (Or.inl q) (by decide), show gS (aG g c f s x) w = gS g w from aG_o (by decide) (Or.inl q) (by decide), show iX (aG g c f s x) w = iX g w from aG_V (Or.inr q)]
      refine ⟨?_, ?_, ?_, ?_, fun z => ?_⟩
      · rw [eo _ (by omega) (by omega) (by omega) (by omega) (by omega) (by omega) (by omega)]; exact e1
      · rw [eo _ (by omega) (by omega) (by omega) (by omega) (by omega) (by omega) (by omega)]; exact e2
      · rw [eo _ (by omega) (by omega) (by omega) (by omega) (by omega) (by omega) (by omega)]; exact e3
      · rw [eo _ (by omega) (by omega) (by omega) (by omega) (by omega) (by omega) (by omega)]; exact e4
      · rw [eo _ (by omega) (by omega) (by omega) (by omega) (by omega) (by omega) (by omega)]
        refine e5 (fun i hi => ?_)
        have := z i hi
        rwa [show gD (aG g c f s x) i = gD g i from aG_o (by decide) (Or.inr (by decide)) (by decide)] at this
  · have hi : i < gO g := hi
    have hd := hD i hi
    rw [show gD (aG g c f s x) i = gD g i from aG_o (by decide) (Or.inr (by decide)) (by decide)]
    refine ⟨?_, ?_⟩
    · rw [eo _ (by omega) (by omega) (by omega) (by omega) (by omega) (by omega) (by omega)]; exact (k i hi).1
    · rw [eo _ (by omega) (by omega) (by omega) (by omega) (by omega) (by omega) (by omega)]; exact (k i hi).2
  · rw [aG_A]
    by_cases z : q = c ∧ w = gW g
    · rw [if_pos z, z.1, z.2, pk_us]; rfl
    · rw [if_neg z, eo _ (by omega) (by omega) (by omega) (by omega) (by omega) (by omega) (by omega)]
      exact a q w hq hw
theorem Mid.write {T : Td} {g0 g : Gs} {σ1 τ0 σ τ : Wd} {c f : Nat} {x : Int32} (h : Mid T g0 σ1 τ0 g σ τ) (hW : gW g < 60) (hc : c < tN T) (hf : f < tF T) : Mid T g0 σ1 τ0 (aG g c f (clkN g c (gW g) + 1) x) (uL (uL (uI (uI (uI (uI σ 30 (gW g) (nI f)) 31 (gW g) x) 32 (gW g) (nI c)) 33 (gW g) (nI (clkN g c (gW g) + 1))) 29 2 (lN (gW g + 1))) 29 (6 + c) (gL σ 29 (6 + c) ||| ((1 : Int64) <<< ((nI (gW g)).toInt64 &&& 63)))) (rI τ 26 (upd (upd (upd (upd (upd (upd (upd (τ.1 26) 0 (nI (gW g + 1))) (110 + 5 * gW g) (nI f)) (110 + 5 * gW g + 1) x) (110 + 5 * gW g + 2) (nI c)) (110 + 5 * gW g + 3) (nI (clkN g c (gW g) + 1))) (110 + 5 * gW g + 4) (-2)) (470 + 60 * c + gW g) 1)) := by
  obtain ⟨⟨fa, fb, fc⟩, f2, f3, f4, f5, f6, hI, w, o⟩ := h
  have hn := hI.1.2.2.2.2.1
  have hH := hI.1.2.2.2.1
  have gi : ∀ q k, gI (uL (uL (uI (uI (uI (uI σ 30 (gW g) (nI f)) 31 (gW g) x) 32 (gW g) (nI c)) 33 (gW g) (nI (clkN g c (gW g) + 1))) 29 2 (lN (gW g + 1))) 29 (6 + c) (gL σ 29 (6 + c) ||| ((1 : Int64) <<< ((nI (gW g)).toInt64 &&& 63)))) q k = if q = 33 ∧ k = gW g then nI (clkN g c (gW g) + 1) else if q = 32 ∧ k = gW g then nI c else if q = 31 ∧ k = gW g then x else if q = 30 ∧ k = gW g then nI f else gI σ q k := fun q k => by
    rw [gI_uL, gI_uL, gI_uI, gI_uI, gI_uI, gI_uI]
  have gn : ∀ q k, (k ≠ gW g ∨ (q ≠ 30 ∧ q ≠ 31 ∧ q ≠ 32 ∧ q ≠ 33)) → gI (uL (uL (uI (uI (uI (uI σ 30 (gW g) (nI f)) 31 (gW g) x) 32 (gW g) (nI c)) 33 (gW g) (nI (clkN g c (gW g) + 1))) 29 2 (lN (gW g + 1))) 29 (6 + c) (gL σ 29 (6 + c) ||| ((1 : Int64) <<< ((nI (gW g)).toInt64 &&& 63)))) q k = gI σ q k := fun q k hq => by
    rw [gi, if_neg (by omega), if_neg (by omega), if_neg (by omega), if_neg (by omega)]
  refine ⟨⟨fun q hq hd => ⟨?_, ?_, (fa q hq hd).2.2⟩, fun v hv => ?_, fun i hi => ?_⟩, KM.wI rfl (by decide) f2, by rw [gI_rI, if_neg (by decide)]; exact f3, ?_, ⟨fun v hv => ?_, fun i hi => ?_⟩, ?_, Inv_w hI hW hc hf, Nat.le_succ_of_le w, o⟩
  · refine Eq.trans ?_ (fa q hq hd).1
    funext k
    exact gn q k (Or.inr (by omega))
  · have : q ≠ 29 := by omega
    show (if q = 29 then _ else if q = 29 then _ else σ.2.1 q) = _
    rw [if_neg this, if_neg this]
    exact (fa q hq hd).2.1
  · obtain ⟨b1, b2, b3, b4⟩ := fb v hv
    have : v ≠ gW g := by omega
    rw [gn _ _ (Or.inl this), gn _ _ (Or.inl this), gn _ _ (Or.inl this), gn _ _ (Or.inl this)]
    exact ⟨b1, b2, b3, b4⟩
  · rw [gn _ _ (Or.inr (by omega))]
    exact fc i hi
  · rw [row_uL, row_uL]
    refine CR_up (g := uG g 0 0 0 (gW g + 1)) (CR_up (g := g) f4 ?_ ?_) ?_ ?_
    · exact ⟨by omega, by omega, fun _ => rfl, by omega, by omega, by omega, by intro k hk e; omega, fun c hc => ⟨by omega, by omega, by omega, by omega, by omega, by omega⟩, fun s' hs' => ⟨by omega, by omega, by omega, fun o ho => ⟨by omega, by omega⟩⟩⟩
    · intro j y hj q
      obtain ⟨q1, q2, q3, q4, q5⟩ := q
      exact ⟨q1, q2, fun e => absurd e hj, q4, q5⟩
    · refine ⟨by omega, by omega, by omega, by omega, by omega, by omega, by intro k hk e; have : k < 8 := Nat.lt_of_lt_of_le hk hH; omega, fun q hq => ⟨fun e w hw => ?_, by omega, by omega, by omega, by omega, by omega⟩, fun s' hs' => ⟨by omega, by omega, by omega, fun o ho => ⟨by omega, by omega⟩⟩⟩
      obtain rfl : q = c := by omega
      rw [bit_set hW hw, show (gL σ 29 (6 + q)).toBitVec.getLsbD w = decide (w < 60 ∧ gA g q w = 1) from (f4.2.2.1 q hq).1 w hw, aG_A]
      by_cases z : w = gW g
      · rw [if_pos ⟨rfl, z⟩]
        have : w < 60 := by omega
        simp [z, hW]
      · rw [if_neg (fun y => z y.2)]
        simp [z]
    · intro j y hj q
      obtain ⟨q1, q2, q3, q4, q5, q6, q7, q8, q9⟩ := q
      refine ⟨q1, q2, q3, q4, q5, q6, q7, fun q hq => ⟨fun e w hw => ?_, (q8 q hq).2.1, fun e => ?_, fun e => ?_, fun e => ?_, fun e => ?_⟩, fun s hs => ⟨(q9 s hs).1, fun e => ?_, fun e => ?_, (q9 s hs).2.2.2⟩⟩
      · rw [aG_A, if_neg (fun z => by omega)]
        exact (q8 q hq).1 e w hw
      · exact ((q8 q hq).2.2.1 e).trans (aG_V (g := g) (Or.inl (by decide))).symm
      · exact ((q8 q hq).2.2.2.1 e).trans (aG_V (g := g) (Or.inl (by decide))).symm
      · exact ((q8 q hq).2.2.2.2.1 e).trans (aG_V (g := g) (Or.inl (by decide))).symm
      · exact ((q8 q hq).2.2.2.2.2 e).trans (aG_V (g := g) (Or.inl (by decide))).symm
      · exact ((q9 s hs).2.1 e).trans (aG_V (g := g) (Or.inl (by decide))).symm
      · exact ((q9 s hs).2.2.1 e).trans (aG_V (g := g) (Or.inl (by decide))).symm
  · have hv : v < gW g + 1 := hv
    by_cases q : v = gW g
    · subst q
      rw [aG_F, aG_N, aG_S, aG_X, gi, gi, gi, gi]
      refine ⟨?_, ?_, ?_, ?_⟩ <;> simp
    · have := f5.1 v (by omega)
      rw [show gF (aG g c f (clkN g c (gW g) + 1) x) v = gF g v from aG_o (by decide) (Or.inl q) (by decide), show gN (aG g c f (clkN g c (gW g) + 1) x) v = gN g v from aG_o (by decide) (Or.inl q) (by decide), show gS (aG g c f (clkN g c (gW g) + 1) x) v = gS g v from aG_o (by decide) (Or.inl q) (by decide), show iX (aG g c f (clkN g c (gW g) + 1) x) v = iX g v from aG_V (Or.inr q), gn _ _ (Or.inl q), gn _ _ (Or.inl q), gn _ _ (Or.inl q), gn _ _ (Or.inl q)]
      exact this
  · rw [show gD (aG g c f (clkN g c (gW g) + 1) x) i = gD g i from aG_o (by decide) (Or.inr (by decide)) (by decide), gn _ _ (Or.inr (by omega))]
    exact f5.2 i hi
  · rw [rI_at]
    exact MR_w hI hW (by omega) f6
