/-! the order given -/
def oG (g : Gs) (f : Nat → Nat) (m : Nat) : Gs := (fun t x y => if t = 10 then f x else if t = 1 then m else g.1 t x y, g.2)
theorem oG_o {g : Gs} {f : Nat → Nat} {m t x y : Nat} (h : t ≠ 10) (h1 : t ≠ 1) : (oG g f m).1 t x y = g.1 t x y := (if_neg h).trans (if_neg h1)
theorem MR_o0 {g : Gs} {f : Nat → Nat} {r : Nat → Int32} (hf : ∀ i, i < gO g → f i = gD g i) (h : MR g r) : MR (oG g f (gO g)) r := by
  obtain ⟨a1, b, c, d, e, k, a⟩ := h
  refine ⟨a1, b, c, d, fun w hw => ⟨(e w hw).1, (e w hw).2.1, (e w hw).2.2.1, (e w hw).2.2.2.1, fun q => (e w hw).2.2.2.2 (fun i hi => ?_)⟩, fun i hi => ?_, a⟩
  · rw [← hf i hi]; exact q i hi
  · show r (410 + i) = nI (f i) ∧ r (110 + 5 * f i + 4) = nI i
    rw [hf i hi]; exact k i hi
theorem MR_ord {g : Gs} {f : Nat → Nat} {i : Nat} {r : Nat → Int32} (hW : gW g ≤ 60) (hH : gH g ≤ 8) (hi : i < 60) (hb : ∀ j, j ≤ i → f j < 60) (hd : ∀ j, j < i → f j ≠ f i) (h : MR (oG g f i) r) : MR (oG g f (i + 1)) (upd (upd (upd r (410 + i) (nI (f i))) (110 + 5 * f i + 4) (nI i)) 1 (nI (i + 1))) := by
  have hbi := hb i (Nat.le_refl _)
  have eo : ∀ j, j ≠ 1 → j ≠ 110 + 5 * f i + 4 → j ≠ 410 + i → upd (upd (upd r (410 + i) (nI (f i))) (110 + 5 * f i + 4) (nI i)) 1 (nI (i + 1)) j = r j := fun j h1 h2 h3 => by rw [pk_un h1, pk_un h2, pk_un h3]
  obtain ⟨⟨a1, a2, a3, a4, a5⟩, b, c, d, e, k, a⟩ := h
  have eW : gW (oG g f i) = gW g := rfl
  have eH : gH (oG g f i) = gH g := rfl
  refine ⟨⟨?_, pk_us, ?_, ?_, ?_⟩, fun k hk => ?_, fun q hq => ⟨?_, fun j hj => ?_⟩, fun s hs => ⟨?_, ?_, ?_, fun o ho => ⟨?_, ?_⟩⟩, fun w hw => ?_, fun q hq => ?_, fun q w hq hw => ?_⟩
  · rw [eo _ (by omega) (by omega) (by omega)]; exact a1
  · rw [eo _ (by omega) (by omega) (by omega)]; exact a3
  · rw [eo _ (by omega) (by omega) (by omega)]; exact a4
  · rw [eo _ (by omega) (by omega) (by omega)]; exact a5
  · have hk : k < gH g := hk
    rw [eo _ (by omega) (by omega) (by omega)]; exact b k hk
  · rw [eo _ (by omega) (by omega) (by omega)]; exact (c q hq).1
  · rw [eo _ (by omega) (by omega) (by omega)]; exact (c q hq).2 j hj
  · rw [eo _ (by omega) (by omega) (by omega)]; exact (d s hs).1
  · rw [eo _ (by omega) (by omega) (by omega)]; exact (d s hs).2.1
  · rw [eo _ (by omega) (by omega) (by omega)]; exact (d s hs).2.2.1
  · rw [eo _ (by omega) (by omega) (by omega)]; exact ((d s hs).2.2.2 o ho).1
  · rw [eo _ (by omega) (by omega) (by omega)]; exact ((d s hs).2.2.2 o ho).2
  · have hw : w < gW g := hw
    obtain ⟨e1, e2, e3, e4, e5⟩ := e w hw
    refine ⟨?_, ?_, ?_, ?_, fun q => ?_⟩
    · rw [eo _ (by omega) (by omega) (by omega)]; exact e1
    · rw [eo _ (by omega) (by omega) (by omega)]; exact e2
    · rw [eo _ (by omega) (by omega) (by omega)]; exact e3
    · rw [eo _ (by omega) (by omega) (by omega)]; exact e4
    · have qi : f i ≠ w := q i (Nat.lt_succ_self i)
      rw [eo _ (by omega) (by omega) (by omega)]
      exact e5 (fun j hj => q j (Nat.lt_succ_of_lt hj))
  · have hq : q < i + 1 := hq
    show upd _ 1 (nI (i + 1)) (410 + q) = nI (f q) ∧ upd _ 1 (nI (i + 1)) (110 + 5 * f q + 4) = nI q
    have hbq := hb q (by omega)
    by_cases hqi : q = i
    · subst hqi
      refine ⟨?_, ?_⟩
      · rw [pk_un (by omega), pk_un (by omega), pk_us]
      · rw [pk_un (by omega), pk_us]
    · have := hd q (by omega)
      have kk : r (410 + q) = nI (f q) ∧ r (110 + 5 * f q + 4) = nI q := k q (show q < i by omega)
      refine ⟨?_, ?_⟩
      · rw [eo _ (by omega) (by omega) (by omega)]; exact kk.1
      · rw [eo _ (by omega) (by omega) (by omega)]; exact kk.2
  · rw [eo _ (by omega) (by omega) (by omega)]; exact a q w hq hw
theorem c_give {T : Td} {t l : Nat} {g : Gs} {σ τ : Wd} (h : Qd T t l g σ τ) {m : Nat} (hk : gO g ≤ m) (hm : m ≤ 60) : M_X1_giveOrder σ 36 60 (nI m) = some (uL (uL (rI σ 34 (va_cpy (σ.1 36) (σ.1 34) (gO g) (gO g) (m - gO g))) 29 3 (lN m)) 29 (11 + gP g) (lN m)) := by
  obtain ⟨hW, hO, hP, hn⟩ := q_bd h
  unfold M_X1_giveOrder
  rw [q_ordered h, bnd1_some]
  obtain ⟨r, h1, h2⟩ := ow_for (body := fun s : Int32 × Wd => M_X1_giveOrder_L5 36 60 (nI m) s.1 s.2) (Q := fun r => r = rI σ 34 (va_cpy (σ.1 36) (σ.1 34) (gO g) (gO g) (m - gO g))) (fun i s => gO g ≤ i ∧ s = (nI i, rI σ 34 (va_cpy (σ.1 36) (σ.1 34) (gO g) (gO g) (i - gO g)))) m (FU_big (by omega)) (fun i s hi ⟨h0, hs⟩ => by
    subst hs
    show ow (M_X1_giveOrder_L5 36 60 (nI m) (nI i) (rI σ 34 (va_cpy (σ.1 36) (σ.1 34) (gO g) (gO g) (i - gO g)))) _
    unfold M_X1_giveOrder_L5
    rw [if_neg (fun z => by have := (nI_leI (by omega) (by omega)).mp z; omega), chk_pos ((ib_nI (by omega)).mpr (by omega)), chk_pos ((ib_nI (by omega)).mpr (by omega)), ix_nI (by omega), gI_rI_n (by decide), uI_rI, nI_1]
    refine ow_some.mpr ⟨by omega, ?_⟩
    show (nI (i + 1), _) = _
    have e := cpy_s (f := σ.1 36) (g := σ.1 34) (sp := gO g) (dp := gO g) (i := i - gO g)
    rw [show gO g + (i - gO g) = i by omega] at e
    rw [show i + 1 - gO g = i - gO g + 1 by omega, ← e]
    rfl) (fun s ⟨h0, hs⟩ => by
    subst hs
    show ow (M_X1_giveOrder_L5 36 60 (nI m) (nI m) (rI σ 34 (va_cpy (σ.1 36) (σ.1 34) (gO g) (gO g) (m - gO g)))) _
    unfold M_X1_giveOrder_L5
    rw [if_pos ((nI_leI (by omega) (by omega)).mpr (Nat.le_refl _))]
    exact ow_some.mpr rfl) (gO g) (nI (gO g), σ) hk ⟨Nat.le_refl _, by rw [Nat.sub_self, cpy_0, rI_self]⟩
  rw [show iter (fun s : Int32 × Wd => M_X1_giveOrder_L5 36 60 (nI m) s.1 s.2) FU (nI (gO g), σ) = some r from h1, h2, bnd1_some]
  show chk _ _ = _
  rw [chk_pos (by decide)]
  simp only [lt_eq]
  rw [lN_I (by omega), show ix (3 : Int32) = 3 from rfl]
  rw [show M_X1_primary (uL (rI σ 34 (va_cpy (σ.1 36) (σ.1 34) (gO g) (gO g) (m - gO g))) 29 3 (lN m)) = some (nI (gP g)) from c_primary (by rw [gL_uL, if_neg (by decide)]; exact h.2.1.1.2.1), bnd1_some, show (11 : Int32) + nI (gP g) = nI (11 + gP g) from nI_add 11 _, chk_pos ((ib_nI (by omega)).mpr (by omega)), ix_nI (by omega)]
theorem Mid.give {T : Td} {t l : Nat} {g0 g : Gs} {σ1 τ0 σ τ : Wd} (h : Mid T g0 σ1 τ0 g σ τ) (hT : RText T t l σ1 τ0) (hF : ∀ i, i < lgn g (hsP g (gP g)) (gO g) → gI σ 36 i = nI (lgf g (hsP g (gP g)) (gO g) i)) : gO g ≤ lgn g (hsP g (gP g)) (gO g) ∧ lgn g (hsP g (gP g)) (gO g) ≤ 60 ∧ ∃ σ' τ', M_X1_giveOrder σ 36 60 (nI (lgn g (hsP g (gP g)) (gO g))) = some σ' ∧ M_X9_gives τ (nI (gP g)) = some τ' ∧ Mid T g0 σ1 τ0 (uG (oG g (lgf g (hsP g (gP g)) (gO g)) (lgn g (hsP g (gP g)) (gO g))) 6 (gP g) 0 (lgn g (hsP g (gP g)) (gO g))) σ' τ' ∧ σ'.1 35 = σ.1 35 ∧ σ'.1 36 = σ.1 36 ∧ gI τ' 0 47 = gI τ 0 47 ∧ τ'.1 28 = τ.1 28 := by
  have hQ := h.qd hT
  obtain ⟨hW, hO, hPn, hn⟩ := q_bd hQ
  have hI := hQ.2.2.2.2.1
  have hH := hI.1.2.2.2.1
  have hKP : gK g (gP g) = gO g := hI.2.2.2.1
  have hP5 : gP g < 5 := by omega
  have li := lg_inv (R := lgR g (hsP g (gP g)) (gK g (gP g))) (g := g) (k := gK g (gP g)) (gW g)
  have lf := lg_facts hI hP5
  obtain ⟨G, m1, m2⟩ := m_log (c := gP g) hQ hP5
  rw [hKP] at li lf m1 m2
  have hk : gO g ≤ lgn g (hsP g (gP g)) (gO g) := li.1
  have hfD : ∀ i, i < gO g → lgf g (hsP g (gP g)) (gO g) i = gD g i := li.2.1
  obtain ⟨lf1, lf2, lf3, lf4, lf5⟩ := lf
  have c1 := c_give (m := lgn g (hsP g (gP g)) (gO g)) hQ hk (by omega)
  generalize lgf g (hsP g (gP g)) (gO g) = f at *
  generalize lgn g (hsP g (gP g)) (gO g) = m at *
  have hQ2 := hQ.kq (KQ.refl.W27 (F := G) (n := m))
  -- the model's loop
  obtain ⟨x, x1, r, x2, x3⟩ := ow_for (body := fun s : Int32 × Wd => M_X9_gives_L12 (nI (gP g)) s.1 s.2) (Q := fun x => ∃ r, x = rI (W27 τ G m) 26 r ∧ MR (oG g f m) r) (fun i s => gO g ≤ i ∧ ∃ r, s = (nI i, rI (W27 τ G m) 26 r) ∧ MR (oG g f i) r) m (FU_big (by omega)) (fun i s hi ⟨h0, r, hs, hr⟩ => by
    subst hs
    show ow (M_X9_gives_L12 (nI (gP g)) (nI i) (rI (W27 τ G m) 26 r)) _
    have hb := lf1 i hi
    have e1 : r 1 = nI i := hr.1.2.1
    have e45 : gI (rI (W27 τ G m) 26 r) 0 45 = nI m := by rw [gI_rI_n (by decide)]; exact W27_45
    have e27 : ∀ r', gI (rI (W27 τ G m) 26 r') 27 i = nI (f i) := fun r' => by rw [gI_rI_n (by decide)]; exact W27_27.trans (m2 i hi)
    unfold M_X9_gives_L12
    rw [e45, if_neg (fun z => by have := (nI_leI (by omega) (by omega)).mp z; omega), chk_pos (by decide), chk_pos ((ib_nI (by omega)).mpr (by omega)), show ix (1 : Int32) = 1 from rfl, gI_rI_s, e1, show (410 : Int32) + nI i = nI (410 + i) from nI_add 410 i, chk_pos ((ib_nI (by omega)).mpr (by omega)), ix_nI (show i < 2 ^ 31 by omega), ix_nI (show 410 + i < 2 ^ 31 by omega), e27]
    simp only [lt_eq]
    rw [uI_rI, chk_pos ((ib_nI (by omega)).mpr (by omega)), chk_pos (by decide), e27, show (110 : Int32) + 5 * nI (f i) + 4 = nI (110 + 5 * f i + 4) by rw [show (110 : Int32) = nI 110 from rfl, show (5 : Int32) = nI 5 from rfl, show (4 : Int32) = nI 4 from rfl, pk_mul, nI_add, nI_add], chk_pos ((ib_nI (by omega)).mpr (by omega)), ix_nI (show 110 + 5 * f i + 4 < 2 ^ 31 by omega), gI_rI_s, pk_un (show 1 ≠ 410 + i by omega), e1, uI_rI, chk_pos (by decide), chk_pos (by decide), gI_rI_s, pk_un (show 1 ≠ 110 + 5 * f i + 4 by omega), pk_un (show 1 ≠ 410 + i by omega), e1, nI_1, uI_rI]
    refine ow_some.mpr ⟨by omega, _, rfl, MR_ord hW hH (by omega) (fun j hj => by have := lf1 j (by omega); omega) (fun j hj => lf2 j i hj hi) hr⟩) (fun s ⟨h0, r, hs, hr⟩ => by
    subst hs
    show ow (M_X9_gives_L12 (nI (gP g)) (nI m) (rI (W27 τ G m) 26 r)) _
    have e45 : gI (rI (W27 τ G m) 26 r) 0 45 = nI m := by rw [gI_rI_n (by decide)]; exact W27_45
    unfold M_X9_gives_L12
    rw [e45, if_pos ((nI_leI (by omega) (by omega)).mpr (Nat.le_refl _))]
    exact ow_some.mpr ⟨r, rfl, hr⟩) (gO g) (nI (gO g), W27 τ G m) hk ⟨Nat.le_refl _, (W27 τ G m).1 26, by rw [rI_self], by
      rw [W27_r (by decide) (by decide)]
      exact MR_o0 hfD hQ.2.2.2.1⟩
  have eM : M_X9_gives τ (nI (gP g)) = some (uI (rI (W27 τ G m) 26 r) 26 (15 + 6 * gP g) (nI m)) := by
    unfold M_X9_gives
    rw [m1, bnd1_some, show M_X9_ofCopy (W27 τ G m) (nI (gP g)) 0 = some (nI (gO g)) from (q_known hQ2 hP5).2.trans (by rw [hKP]), bnd1_some, show iter (fun s : Int32 × Wd => M_X9_gives_L12 (nI (gP g)) s.1 s.2) FU (nI (gO g), W27 τ G m) = some x from x1, x2, bnd1_some]
    show chk _ _ = _
    rw [chk_pos (by decide), show (15 : Int32) + 6 * nI (gP g) + 0 = nI (15 + 6 * gP g) by rw [show (15 : Int32) = nI 15 from rfl, show (6 : Int32) = nI 6 from rfl, pk_mul, nI_add]; exact nI_add _ 0, chk_pos ((ib_nI (by omega)).mpr (by omega)), ix_nI (by omega), show ix (1 : Int32) = 1 from rfl, gI_rI_s, show r 1 = nI m from x3.1.2.1]
    rfl
  have ho : ∀ t x y, t ≠ 10 → t ≠ 1 → t ≠ 6 → (uG (oG g f m) 6 (gP g) 0 m).1 t x y = g.1 t x y := fun t x y q1 q2 q3 => (uG_o (fun z => q3 z.1)).trans (oG_o q1 q2)
  have hKn : ∀ c, gK (uG (oG g f m) 6 (gP g) 0 m) c = if c = gP g then m else gK g c := fun c => by
    by_cases q : c = gP g
    · rw [if_pos q, q]; exact uG_s
    · rw [if_neg q]; exact (uG_o (fun z => q z.2.1)).trans (oG_o (by decide) (by decide))
  have eG : ∀ c k, c ≠ 34 → gI (uL (uL (rI σ 34 (va_cpy (σ.1 36) (σ.1 34) (gO g) (gO g) (m - gO g))) 29 3 (lN m)) 29 (11 + gP g) (lN m)) c k = gI σ c k := fun c k hc => show gI (rI σ 34 (va_cpy (σ.1 36) (σ.1 34) (gO g) (gO g) (m - gO g))) c k = _ from gI_rI_n hc
  have eR : ∀ c, c ≠ 34 → (uL (uL (rI σ 34 (va_cpy (σ.1 36) (σ.1 34) (gO g) (gO g) (m - gO g))) 29 3 (lN m)) 29 (11 + gP g) (lN m)).1 c = σ.1 c := fun c hc => show (rI σ 34 (va_cpy (σ.1 36) (σ.1 34) (gO g) (gO g) (m - gO g))).1 c = _ from rI_ne hc
  have e34 : ∀ k, gI (uL (uL (rI σ 34 (va_cpy (σ.1 36) (σ.1 34) (gO g) (gO g) (m - gO g))) 29 3 (lN m)) 29 (11 + gP g) (lN m)) 34 k = va_cpy (σ.1 36) (σ.1 34) (gO g) (gO g) (m - gO g) k := fun k => show gI (rI σ 34 (va_cpy (σ.1 36) (σ.1 34) (gO g) (gO g) (m - gO g))) 34 k = _ from gI_rI_s
  obtain ⟨f1, f2, f3, f4, f5, f6, _, w, o⟩ := h
  obtain ⟨fa, fb, fc⟩ := f1
  refine ⟨hk, by omega, _, _, c1, eM, ⟨⟨fun c hc hd => ?_, fun w hw => ?_, fun i hi => ?_⟩, KM.uI rfl (by decide) (KM.wI rfl (by decide) (f2.trans (KQ.refl.W27).1)), ?_, ?_, ?_, ?_, ?_, w, ?_⟩, eR 35 (by decide), eR 36 (by decide), ?_, ?_⟩
  · refine ⟨(eR c (by omega)).trans (fa c hc hd).1, ?_, (fa c hc hd).2.2⟩
    have : c ≠ 29 := by omega
    show (if c = 29 then _ else if c = 29 then _ else σ.2.1 c) = _
    rw [if_neg this, if_neg this]
    exact (fa c hc hd).2.1
  · obtain ⟨b1, b2, b3, b4⟩ := fb w hw
    exact ⟨(eG 30 w (by decide)).trans b1, (eG 31 w (by decide)).trans b2, (eG 32 w (by decide)).trans b3, (eG 33 w (by decide)).trans b4⟩
  · refine Eq.trans ?_ (fc i hi)
    rw [e34, pk_cpy_out (by omega)]
    rfl
  · rw [gI_uI, if_neg (by omega), gI_rI_n (by decide), W27_o (Or.inr (by decide)) (by decide)]
    exact f3
  · rw [row_uL, row_uL]
    refine CR_up (g := oG g f m) (CR_up (g := g) f4 ?_ ?_) ?_ ?_
    · exact ⟨by omega, by omega, by omega, fun _ => rfl, by omega, by omega, by intro k hk e; omega, fun c hc => ⟨by omega, by omega, by omega, by omega, by omega, by omega⟩, fun s' hs' => ⟨by omega, by omega, by omega, fun o ho => ⟨by omega, by omega⟩⟩⟩
    · intro j y hj q
      obtain ⟨q1, q2, q3, q4, q5⟩ := q
      exact ⟨q1, q2, q3, fun e => absurd e hj, q5⟩
    · refine ⟨by omega, by omega, by omega, by omega, by omega, by omega, by intro k hk e; have : k < 8 := Nat.lt_of_lt_of_le hk hH; omega, fun c hc => ⟨by omega, fun e => ?_, by omega, by omega, by omega, by omega⟩, fun s' hs' => ⟨by omega, by omega, by omega, fun o ho => ⟨by omega, by omega⟩⟩⟩
      rw [hKn, if_pos (by omega)]
    · intro j y hj q
      obtain ⟨q1, q2, q3, q4, q5, q6, q7, q8, q9⟩ := q
      refine ⟨q1, q2, q3, q4, q5, q6, q7, fun c hc => ⟨(q8 c hc).1, fun e => ?_, (q8 c hc).2.2⟩, q9⟩
      rw [hKn, if_neg (by omega)]
      exact (q8 c hc).2.1 e
  · refine ⟨fun w hw => ?_, fun i hi => ?_⟩
    · have := f5.1 w hw
      exact ⟨(eG 30 w (by decide)).trans this.1, (eG 31 w (by decide)).trans this.2.1, (eG 32 w (by decide)).trans this.2.2.1, (eG 33 w (by decide)).trans this.2.2.2⟩
    · have hi : i < m := hi
      refine (e34 i).trans ?_
      show _ = nI (f i)
      by_cases q : i < gO g
      · rw [pk_cpy_out (by omega), hfD i q]
        exact f5.2 i q
      · rw [pk_cpy_in (by omega) (by omega), show gO g + (i - gO g) = i by omega]
        exact hF i hi
  · show MR _ ((uI (rI (W27 τ G m) 26 r) 26 (15 + 6 * gP g) (nI m)).1 26)
    rw [row_uI, rI_at]
    refine MR_up x3 ?_ ?_
    · refine ⟨by omega, by omega, by omega, by omega, by omega, by intro k hk e; have : k < 8 := Nat.lt_of_lt_of_le hk hH; omega, fun c hc => ⟨fun e => ?_, fun i hi e => by omega⟩, fun s' hs' => ⟨by omega, by omega, by omega, fun o ho => ⟨by omega, by omega⟩⟩, fun w hw => ⟨by omega, by omega, by omega, by omega, by omega⟩, fun i hi => ⟨by omega, by omega⟩, fun c w hc hw e => by omega⟩
      rw [hKn, if_pos (by omega)]
    · intro j y hj q
      obtain ⟨q1, q2, q3, q4, q5, q6, q7, q8, q9, q10, q11⟩ := q
      refine ⟨q1, q2, q3, q4, q5, q6, fun c hc => ⟨fun e => ?_, (q7 c hc).2⟩, q8, q9, q10, q11⟩
      rw [hKn, if_neg (by omega)]
      exact (q7 c hc).1 e
  · obtain ⟨i1, i2, i3, i4, i5, i6, i7, i8, i9, i10, i11, i12, i13, i14⟩ := hI
    refine ⟨⟨i1.1, show m ≤ gW g by omega, i1.2.2⟩, i2, fun c hc => ?_, ?_, i5, i6, fun c i hc hi => ?_, fun i hi => lf1 i hi, fun i j hi hj e => ?_, i10, i11, i12, i13, fun c hc => ?_⟩
    · show gK (uG (oG g f m) 6 (gP g) 0 m) c ≤ m
      rw [hKn]
      by_cases q : c = gP g
      · rw [if_pos q]; exact Nat.le_refl _
      · rw [if_neg q]; exact Nat.le_trans (i3 c hc) hk
    · show gK (uG (oG g f m) 6 (gP g) 0 m) (gP g) = m
      rw [hKn, if_pos rfl]
    · rw [hKn] at hi
      show gA g c (f i) = 1
      by_cases q : c = gP g
      · rw [if_pos q] at hi; rw [q]; exact lf4 i hi
      · rw [if_neg q] at hi
        rw [hfD i (Nat.lt_of_lt_of_le hi (i3 c (by omega)))]
        exact i7 c i hc hi
    · have hi : i < m := hi
      have hj : j < m := hj
      have e : f i = f j := e
      rcases Nat.lt_trichotomy i j with q | q | q
      · exact absurd e (lf2 i j q hj)
      · exact q
      · exact absurd e.symm (lf2 j i q hi)
    · rw [hKn, if_neg (fun z : c = gP g => by omega)]; exact i14 c hc
  · exact Nat.le_trans o hk
  · rw [gI_uI, if_neg (by omega), gI_rI_n (by decide), W27_o (Or.inr (by decide)) (by decide)]
  · show (uI (rI (W27 τ G m) 26 r) 26 (15 + 6 * gP g) (nI m)).1 28 = _
    unfold uI
    rw [rI_ne (by decide), rI_ne (by decide), W27_r (by decide) (by decide)]
