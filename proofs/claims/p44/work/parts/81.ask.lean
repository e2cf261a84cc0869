/-! ask -/
theorem Mid.seen {T : Td} {g0 g : Gs} {σ1 τ0 σ τ : Wd} {s o v : Nat} (h : Mid T g0 σ1 τ0 g σ τ) (hs : s < 4) (ho : o < 5) (hv : v ≤ 60) : Mid T g0 σ1 τ0 (uG g 13 s o v) (uL σ 29 (56 + 5 * s + o) (lN v)) (uI τ 26 (50 + 14 * s + 3 + o) (nI v)) := by
  have hI := h.2.2.2.2.2.2.1
  have hH := hI.1.2.2.2.1
  have hW := hI.1.1
  have hO := hI.1.2.1
  have eU : ∀ a b, gE (uG g 13 s o v) a b = if a = s ∧ b = o then v else gE g a b := fun a b => by
    by_cases q : a = s ∧ b = o
    · rw [if_pos q, q.1, q.2]; exact uG_s
    · rw [if_neg q]; exact uG_o (fun z => q z.2)
  refine h.up ?_ ?_ ?_ ?_ ?_ rfl rfl (fun q => q)
  · refine ⟨by omega, by omega, by omega, by omega, by omega, by omega, by intro k hk e; have : k < 8 := Nat.lt_of_lt_of_le hk hH; omega, fun c hc => ⟨by omega, by omega, by omega, by omega, by omega, by omega⟩, fun a ha => ⟨by omega, by omega, by omega, fun b hb => ⟨fun e => ?_, by omega⟩⟩⟩
    rw [eU, if_pos (by omega)]
  · intro j x hj q
    obtain ⟨q1, q2, q3, q4, q5, q6, q7, q8, q9⟩ := q
    refine ⟨q1, q2, q3, q4, q5, q6, q7, q8, fun a ha => ⟨(q9 a ha).1, (q9 a ha).2.1, (q9 a ha).2.2.1, fun b hb => ⟨fun e => ?_, ((q9 a ha).2.2.2 b hb).2⟩⟩⟩
    rw [eU, if_neg (by omega)]
    exact ((q9 a ha).2.2.2 b hb).1 e
  · refine ⟨by omega, by omega, by omega, by omega, by omega, by intro k hk e; have : k < 8 := Nat.lt_of_lt_of_le hk hH; omega, fun c hc => ⟨by omega, fun i hi e => by omega⟩, fun a ha => ⟨by omega, by omega, by omega, fun b hb => ⟨fun e => ?_, by omega⟩⟩, fun w hw => ⟨by omega, by omega, by omega, by omega, by omega⟩, fun i hi => ⟨by omega, by omega⟩, fun c w hc hw e => by omega⟩
    rw [eU, if_pos (by omega)]
  · intro j x hj q
    obtain ⟨q1, q2, q3, q4, q5, q6, q7, q8, q9, q10, q11⟩ := q
    refine ⟨q1, q2, q3, q4, q5, q6, q7, fun a ha => ⟨(q8 a ha).1, (q8 a ha).2.1, (q8 a ha).2.2.1, fun b hb => ⟨fun e => ?_, ((q8 a ha).2.2.2 b hb).2⟩⟩, q9, q10, q11⟩
    rw [eU, if_neg (by omega)]
    exact ((q8 a ha).2.2.2 b hb).1 e
  · obtain ⟨i1, i2, i3, i4, i5, i6, i7, i8, i9, i10, i11, i12, i13, i14⟩ := hI
    refine ⟨i1, i2, i3, i4, i5, i6, i7, i8, i9, i10, i11, fun a ha => ⟨(i12 a ha).1, fun b => ⟨?_, ((i12 a ha).2 b).2⟩⟩, i13, i14⟩
    rw [eU]
    by_cases q : a = s ∧ b = o
    · rw [if_pos q]; exact hv
    · rw [if_neg q]; exact ((i12 a ha).2 b).1
theorem Mid.got {T : Td} {g0 g : Gs} {σ1 τ0 σ τ : Wd} {s : Nat} {v : Int32} (h : Mid T g0 σ1 τ0 g σ τ) (hs : s < 4) : Mid T g0 σ1 τ0 (uV g 6 s v) (uL σ 29 (52 + s) v.toInt64) (uI τ 26 (50 + 14 * s + 2) v) := by
  have hI := h.2.2.2.2.2.2.1
  have hH := hI.1.2.2.2.1
  have hW := hI.1.1
  have hO := hI.1.2.1
  have ec : ∀ j c, j < 4 → iC (uV g 6 s v) j c = iC g j c := fun j c hj => uV_o (by omega)
  have er : ∀ c, iRf (uV g 6 s v) c = iRf g c := fun c => uV_o (by omega)
  have eg : ∀ c, iGt (uV g 6 s v) c = if c = s then v else iGt g c := fun c => by
    by_cases q : c = s
    · rw [if_pos q, q]; exact uV_s
    · rw [if_neg q]; exact uV_o (fun z => q z.2)
  refine h.up ?_ ?_ ?_ ?_ ?_ rfl rfl (fun q => q)
  · refine ⟨by omega, by omega, by omega, by omega, by omega, by omega, by intro k hk e; have : k < 8 := Nat.lt_of_lt_of_le hk hH; omega, fun c hc => ⟨by omega, by omega, by omega, by omega, by omega, by omega⟩, fun a ha => ⟨by omega, by omega, fun e => ?_, fun b hb => ⟨by omega, by omega⟩⟩⟩
    rw [eg, if_pos (by omega)]
    simp
  · intro j x hj q
    obtain ⟨q1, q2, q3, q4, q5, q6, q7, q8, q9⟩ := q
    refine ⟨q1, q2, q3, q4, q5, q6, q7, fun c hc => ⟨(q8 c hc).1, (q8 c hc).2.1, fun e => ?_, fun e => ?_, fun e => ?_, fun e => ?_⟩, fun a ha => ⟨(q9 a ha).1, fun e => ?_, fun e => ?_, (q9 a ha).2.2.2⟩⟩
    · rw [ec _ _ (by decide)]; exact (q8 c hc).2.2.1 e
    · rw [ec _ _ (by decide)]; exact (q8 c hc).2.2.2.1 e
    · rw [ec _ _ (by decide)]; exact (q8 c hc).2.2.2.2.1 e
    · rw [ec _ _ (by decide)]; exact (q8 c hc).2.2.2.2.2 e
    · rw [er]; exact (q9 a ha).2.1 e
    · rw [eg, if_neg (by omega)]; exact (q9 a ha).2.2.1 e
  · refine ⟨by omega, by omega, by omega, by omega, by omega, by intro k hk e; have : k < 8 := Nat.lt_of_lt_of_le hk hH; omega, fun c hc => ⟨by omega, fun i hi e => by omega⟩, fun a ha => ⟨by omega, by omega, fun e => ?_, fun b hb => ⟨by omega, by omega⟩⟩, fun w hw => ⟨by omega, by omega, by omega, by omega, by omega⟩, fun i hi => ⟨by omega, by omega⟩, fun c w hc hw e => by omega⟩
    rw [eg, if_pos (by omega)]
  · intro j x hj q
    obtain ⟨q1, q2, q3, q4, q5, q6, q7, q8, q9, q10, q11⟩ := q
    refine ⟨q1, q2, q3, q4, q5, q6, fun c hc => ⟨(q7 c hc).1, fun i hi e => ?_⟩, fun a ha => ⟨(q8 a ha).1, fun e => ?_, fun e => ?_, (q8 a ha).2.2.2⟩, q9, q10, q11⟩
    · rw [ec _ _ hi]; exact (q7 c hc).2 i hi e
    · rw [er]; exact (q8 a ha).2.1 e
    · rw [eg, if_neg (by omega)]; exact (q8 a ha).2.2.1 e
  · obtain ⟨i1, i2, i3, i4, i5, i6, i7, i8, i9, i10, i11, i12, i13, i14⟩ := hI
    exact ⟨i1, i2, i3, i4, i5, i6, i7, i8, i9, i10, i11, i12, fun j c hj z1 z2 => (ec j c hj).trans (i13 j c hj z1 z2), i14⟩
def seC (r : Nat → Int64) (s : Nat) (mx : Nat → Nat) (n : Nat) : Nat → Int64 := fun j => if 56 + 5 * s ≤ j ∧ j < 56 + 5 * s + n then lN (mx (j - (56 + 5 * s))) else r j
def seM (r : Nat → Int32) (s : Nat) (mx : Nat → Nat) (n : Nat) : Nat → Int32 := fun j => if 50 + 14 * s + 3 ≤ j ∧ j < 50 + 14 * s + 3 + n then nI (mx (j - (50 + 14 * s + 3))) else r j
theorem seC_s {r : Nat → Int64} {s i : Nat} {mx : Nat → Nat} : vp_updL (seC r s mx i) (56 + 5 * s + i) (lN (mx i)) = seC r s mx (i + 1) := by
  funext j
  by_cases hj : j = 56 + 5 * s + i
  · subst hj
    rw [pk_uLs]
    unfold seC
    rw [if_pos (by omega)]
    congr 2
    omega
  · rw [pk_uLn hj]
    unfold seC
    by_cases hc : 56 + 5 * s ≤ j ∧ j < 56 + 5 * s + i
    · rw [if_pos hc, if_pos (by omega)]
    · rw [if_neg hc, if_neg (by omega)]
theorem seM_s {r : Nat → Int32} {s i : Nat} {mx : Nat → Nat} : upd (seM r s mx i) (50 + 14 * s + 3 + i) (nI (mx i)) = seM r s mx (i + 1) := by
  funext j
  by_cases hj : j = 50 + 14 * s + 3 + i
  · subst hj
    rw [pk_us]
    unfold seM
    rw [if_pos (by omega)]
    congr 2
    omega
  · rw [pk_un hj]
    unfold seM
    by_cases hc : 50 + 14 * s + 3 ≤ j ∧ j < 50 + 14 * s + 3 + i
    · rw [if_pos hc, if_pos (by omega)]
    · rw [if_neg hc, if_neg (by omega)]
theorem vec_cong {g g' : Gs} {c o : Nat} (h : ∀ t x y, t ≠ 13 → g'.1 t x y = g.1 t x y) : ∀ k, vecN g' c o k = vecN g c o k := by
  intro k
  induction k with
  | zero => rfl
  | succ k ih =>
    show (if gA g' c k = 1 ∧ gN g' k = o then max (vecN g' c o k) (gS g' k) else vecN g' c o k) = (if gA g c k = 1 ∧ gN g k = o then max (vecN g c o k) (gS g k) else vecN g c o k)
    rw [ih, show gA g' c k = gA g c k from h _ _ _ (by decide), show gN g' k = gN g k from h _ _ _ (by decide), show gS g' k = gS g k from h _ _ _ (by decide)]
theorem Mid.seens {T : Td} {t l : Nat} {g0 g : Gs} {σ1 τ0 σ τ : Wd} {s c : Nat} (v3 : Int32) (h : Mid T g0 σ1 τ0 g σ τ) (hT : RText T t l σ1 τ0) (hs : s < 4) (hc : c < tN T) : ∃ g', iter (fun x : Int32 × Wd => M_X1_tellTo_L14 (nI s) (nI c) x.1 x.2) FU ((0 : Int32), σ) = some (rL σ 29 (seC (σ.2.1 29) s (fun o => max (gE g s o) (vecN g c o (gW g))) (tN T))) ∧ iter (fun x : Int32 × Wd => M_X9_asked_L29 (nI c) v3 (nI (50 + 14 * s)) x.1 x.2) FU ((0 : Int32), τ) = some (rI τ 26 (seM (τ.1 26) s (fun o => max (gE g s o) (vecN g c o (gW g))) (tN T))) ∧ Mid T g0 σ1 τ0 g' (rL σ 29 (seC (σ.2.1 29) s (fun o => max (gE g s o) (vecN g c o (gW g))) (tN T))) (rI τ 26 (seM (τ.1 26) s (fun o => max (gE g s o) (vecN g c o (gW g))) (tN T))) ∧ (∀ a x y, a ≠ 13 → g'.1 a x y = g.1 a x y) ∧ g'.2 = g.2 := by
  have hI := h.2.2.2.2.2.2.1
  have hn := hI.1.2.2.2.2.1
  have hmx : ∀ o, max (gE g s o) (vecN g c o (gW g)) ≤ 60 := fun o => by
    have a := ((hI.2.2.2.2.2.2.2.2.2.2.2.1 s hs).2 o).1
    have b := vecN_le (c := c) (o := o) hI (gW g) (Nat.le_refl _)
    omega
  generalize hmxe : (fun o => max (gE g s o) (vecN g c o (gW g))) = mx
  have hmxo : ∀ o, mx o = max (gE g s o) (vecN g c o (gW g)) := fun o => by rw [← hmxe]
  have st : ∀ (i : Nat) (gi : Gs), i < tN T → Mid T g0 σ1 τ0 gi (rL σ 29 (seC (σ.2.1 29) s mx i)) (rI τ 26 (seM (τ.1 26) s mx i)) → (∀ a x y, a ≠ 13 → gi.1 a x y = g.1 a x y) → gi.2 = g.2 → (∀ o, i ≤ o → gE gi s o = gE g s o) → M_X1_tellTo_L14 (nI s) (nI c) (nI i) (rL σ 29 (seC (σ.2.1 29) s mx i)) = some (.inl (nI (i + 1), rL σ 29 (seC (σ.2.1 29) s mx (i + 1)))) ∧ M_X9_asked_L29 (nI c) v3 (nI (50 + 14 * s)) (nI i) (rI τ 26 (seM (τ.1 26) s mx i)) = some (.inl (nI (i + 1), rI τ 26 (seM (τ.1 26) s mx (i + 1)))) ∧ ∃ gi', Mid T g0 σ1 τ0 gi' (rL σ 29 (seC (σ.2.1 29) s mx (i + 1))) (rI τ 26 (seM (τ.1 26) s mx (i + 1))) ∧ (∀ a x y, a ≠ 13 → gi'.1 a x y = g.1 a x y) ∧ gi'.2 = g.2 ∧ (∀ o, i + 1 ≤ o → gE gi' s o = gE g s o) := fun i gi hi hm h1 h2 h3 => by
    have hQ := hm.qd hT
    obtain ⟨k1, k2, k3⟩ := q_18 hQ
    have hW : gW gi = gW g := h1 _ _ _ (by decide)
    have hv : vecN gi c i (gW gi) = vecN g c i (gW g) := by rw [hW]; exact vec_cong h1 _
    have hvl := vecN_le (c := c) (o := i) hI (gW g) (Nat.le_refl _)
    have hEl := ((hI.2.2.2.2.2.2.2.2.2.2.2.1 s hs).2 i).1
    have ec := (hm.2.2.2.1.2.2.2 s hs).2.2.2 i (by omega)
    have em := (hm.2.2.2.2.2.1.2.2.2.1 s hs).2.2.2 i (by omega)
    have ec1 : gL (rL σ 29 (seC (σ.2.1 29) s mx i)) 29 (56 + 5 * s + i) = lN (gE g s i) := by rw [← h3 i (Nat.le_refl _)]; exact ec.1
    have em1 : gI (rI τ 26 (seM (τ.1 26) s mx i)) 26 (50 + 14 * s + 3 + i) = nI (gE g s i) := by rw [← h3 i (Nat.le_refl _)]; exact em.1
    have hx := hmx i
    rw [← hmxo] at hx
    have n1 := hm.seen (s := s) (o := i) (v := mx i) hs (by omega) hx
    rw [uL_rL, seC_s, uI_rI, seM_s] at n1
    refine ⟨?_, ?_, _, n1, fun a x y ha => (uG_o (fun z => ha z.1)).trans (h1 a x y ha), h2, fun o ho => (uG_o (fun z => by omega)).trans (h3 o (by omega))⟩
    · unfold M_X1_tellTo_L14
      rw [q_copies hQ, bnd1_some, if_neg (fun z => by have := (nI_leI (by omega) (by omega)).mp z; omega), lt_eq, show (56 : Int32) + nI s * 5 + nI i = nI (56 + 5 * s + i) by rw [show (56 : Int32) = nI 56 from rfl, show (5 : Int32) = nI 5 from rfl, pk_mul, nI_add, nI_add, Nat.mul_comm], chk_pos ((ib_nI (by omega)).mpr (by omega)), c_vec hQ (by omega) (by omega), bnd1_some, chk_pos ((ib_nI (by omega)).mpr (by omega)), ix_nI (by omega), ec1, hv, lN_I (by omega), nI_1, lt_eq, lt_eq]
      rw [show (if lN (vecN g c i (gW g)) < lN (gE g s i) then lN (gE g s i) else lN (vecN g c i (gW g))) = lN (mx i) from by
        rw [hmxo]
        by_cases q : vecN g c i (gW g) < gE g s i
        · rw [if_pos ((lN_lt (by omega) (by omega)).mpr q), Nat.max_eq_left (by omega)]
        · rw [if_neg (fun z => q ((lN_lt (by omega) (by omega)).mp z)), Nat.max_eq_right (by omega)], uL_rL, seC_s]
    · unfold M_X9_asked_L29
      rw [k1, chk_pos ((ib_nI (by omega)).mpr k2), ix_nI (show l < 2 ^ 31 by omega), k3, if_neg (fun z => by have := (nI_leI (by omega) (by omega)).mp z; omega), m_vec hQ (by omega) (by omega), bnd1_some, hv, show nI (50 + 14 * s) + 3 + nI i = nI (50 + 14 * s + 3 + i) by rw [show (3 : Int32) = nI 3 from rfl, nI_add, nI_add], chk_pos ((ib_nI (by omega)).mpr (by omega)), ix_nI (by omega), em1, chk_pos ((ib_nI (by omega)).mpr (by omega)), nI_1, ← seM_s, hmxo]
      by_cases q : vecN g c i (gW g) ≤ gE g s i
      · rw [if_pos ((nI_leI (by omega) (by omega)).mpr q), lt_eq, Nat.max_eq_left q, ← em1, gI_rI_s]
        congr 3
        congr 1
        funext j
        by_cases hj : j = 50 + 14 * s + 3 + i
        · subst hj; rw [pk_us]
        · rw [pk_un hj]
      · rw [if_neg (fun z => q ((nI_leI (by omega) (by omega)).mp z)), lt_eq, lt_eq, Nat.max_eq_right (by omega), uI_rI]
  have run : ∀ (d i k : Nat) (gi : Gs), i + d = tN T → d < k → Mid T g0 σ1 τ0 gi (rL σ 29 (seC (σ.2.1 29) s mx i)) (rI τ 26 (seM (τ.1 26) s mx i)) → (∀ a x y, a ≠ 13 → gi.1 a x y = g.1 a x y) → gi.2 = g.2 → (∀ o, i ≤ o → gE gi s o = gE g s o) → ∃ g', iter (fun x : Int32 × Wd => M_X1_tellTo_L14 (nI s) (nI c) x.1 x.2) k (nI i, rL σ 29 (seC (σ.2.1 29) s mx i)) = some (rL σ 29 (seC (σ.2.1 29) s mx (tN T))) ∧ iter (fun x : Int32 × Wd => M_X9_asked_L29 (nI c) v3 (nI (50 + 14 * s)) x.1 x.2) k (nI i, rI τ 26 (seM (τ.1 26) s mx i)) = some (rI τ 26 (seM (τ.1 26) s mx (tN T))) ∧ Mid T g0 σ1 τ0 g' (rL σ 29 (seC (σ.2.1 29) s mx (tN T))) (rI τ 26 (seM (τ.1 26) s mx (tN T))) ∧ (∀ a x y, a ≠ 13 → g'.1 a x y = g.1 a x y) ∧ g'.2 = g.2 := by
    intro d
    induction d with
    | zero =>
      intro i k gi hi hk hm h1 h2 h3
      obtain ⟨m, rfl⟩ : ∃ m, k = m + 1 := ⟨k - 1, by omega⟩
      obtain rfl : i = tN T := by omega
      have hQ := hm.qd hT
      obtain ⟨k1, k2, k3⟩ := q_18 hQ
      have hle : nI (tN T) ≤ nI (tN T) := (nI_leI (by omega) (by omega)).mpr (Nat.le_refl _)
      refine ⟨gi, it_x ?_, it_x ?_, hm, h1, h2⟩
      · show M_X1_tellTo_L14 (nI s) (nI c) (nI (tN T)) _ = _
        unfold M_X1_tellTo_L14
        rw [q_copies hQ, bnd1_some, if_pos hle]
      · show M_X9_asked_L29 (nI c) v3 (nI (50 + 14 * s)) (nI (tN T)) _ = _
        unfold M_X9_asked_L29
        rw [k1, chk_pos ((ib_nI (by omega)).mpr k2), ix_nI (by omega), k3, if_pos hle]
    | succ d ih =>
      intro i k gi hi hk hm h1 h2 h3
      obtain ⟨m, rfl⟩ : ∃ m, k = m + 1 := ⟨k - 1, by omega⟩
      obtain ⟨a1, a2, gi', a3, a4, a5, a6⟩ := st i gi (by omega) hm h1 h2 h3
      obtain ⟨g', b1, b2, b3⟩ := ih (i + 1) m gi' (by omega) (by omega) a3 a4 a5 a6
      exact ⟨g', (it_s a1).trans b1, (it_s a2).trans b2, b3⟩
  have e0 : rL σ 29 (seC (σ.2.1 29) s mx 0) = σ := by
    rw [show seC (σ.2.1 29) s mx 0 = σ.2.1 29 from funext fun j => if_neg (by omega), rL_self]
  have e1 : rI τ 26 (seM (τ.1 26) s mx 0) = τ := by
    rw [show seM (τ.1 26) s mx 0 = τ.1 26 from funext fun j => if_neg (by omega), rI_self]
  have := run (tN T) 0 FU g (by omega) (FU_big (by omega)) (by rw [e0, e1]; exact h) (fun _ _ _ _ => rfl) rfl (fun _ _ => rfl)
  rw [e0, e1] at this
  exact this
theorem doS_cong {T : Td} {g g' : Gs} (hF : ∀ w, gF g' w = gF g w) (hX : ∀ w, iX g' w = iX g w) (hS : ∀ w, gS g' w = gS g w) (hN : ∀ w, gN g' w = gN g w) (w : Nat) (e : Nat → Int32) : doS T g' w e = doS T g w e := by
  have ep : ∀ p, evP T g' w e p = evP T g w e p := fun p => by
    show evA (vrE e (iX g' w) (nI (gS g' w)) (nI (gN g' w))) (tX T (gF g' w) p) (fun _ => 0) 0 = _
    rw [hF, hX, hS, hN]
  unfold doS
  rw [ep, ep, ep, ep, hF]
theorem envS_cong {T : Td} {g g' : Gs} {f f' : Nat → Nat} {n : Nat} (hd : ∀ w e, doS T g' w e = doS T g w e) (hf : ∀ i, i < n → f' i = f i) : ∀ i, i ≤ n → envS T g' f' i = envS T g f i := by
  intro i
  induction i with
  | zero => intro _; rfl
  | succ i ih =>
    intro hi
    show (doS T g' (f' i) (envS T g' f' i)).2.2 = (doS T g (f i) (envS T g f i)).2.2
    rw [hd, hf i (by omega), ih (by omega)]
theorem Mid.fq {T : Td} {g0 g : Gs} {σ1 τ0 σ σ' τ : Wd} (h : Mid T g0 σ1 τ0 g σ τ) (k : FQ 108 σ σ') : Mid T g0 σ1 τ0 g σ' τ := by
  obtain ⟨⟨a1, a2, a3⟩, b, c, d, e, f⟩ := h
  have kk : ∀ x, x < 108 → σ'.1 x = σ.1 x := fun x hx => k.2 x (Or.inl hx)
  have kg : ∀ x j, x < 108 → gI σ' x j = gI σ x j := fun x j hx => congrFun (kk x hx) j
  refine ⟨⟨fun x hx hd => ⟨(kk x hx).trans (a1 x hx hd).1, (congrArg (fun z => z.1 x) k.1).trans (a1 x hx hd).2.1, (congrArg (fun z => z.2 x) k.1).trans (a1 x hx hd).2.2⟩, fun w hw => ?_, fun i hi => (kg _ _ (by decide)).trans (a3 i hi)⟩, b, c, by rw [show σ'.2.1 = σ.2.1 from congrArg Prod.fst k.1]; exact d, CA_eq (fun j q1 q2 => kk _ (by omega)) e, f⟩
  rw [kg 30 w (by decide), kg 31 w (by decide), kg 32 w (by decide), kg 33 w (by decide)]
  exact a2 w hw
theorem st_5 : Sp_5 Rel := by
  intro σ τ h a b d
  have h0 := h
  obtain ⟨T, t, l, g, hT, hN, σ1, τ1, hk, hc, ⟨hKM, hS⟩, hT1, hm, hend⟩ := lay_start h
  have hn := hT.2.2.2.2.2.1.2.1
  have hC6 : tC T ≤ 6 := hT.2.2.2.2.2.1.2.2.2.2.1
  unfold M_X8_ask M_X9_ask
  rcases bd_cases a (n := 4) (by decide) with ⟨s, hs, rfl⟩ | ha
  · rw [c_isSession_t hs, bnd1_some, if_neg n10, m_isSession_t hs, bnd1_some, if_neg n10]
    rcases q_isCopy hT b with ⟨c, hc5, rfl, e1, e2⟩ | ⟨e1, e2⟩
    · rw [e1, bnd1_some, if_neg n10, e2, bnd1_some, if_neg n10]
      rcases q_isCell hT d with ⟨k, hk6, rfl, f1, f2⟩ | ⟨f1, f2⟩
      · rw [f1, bnd1_some, if_pos n01, f2, bnd1_some, if_pos n01, hk, bnd1_some, hc, bnd1_some]
        obtain ⟨g2, σ2, τ2, p1, p2, m2, _⟩ := hm.opens hc5
        have hQ2 := m2.qd hT1
        obtain ⟨ra, rm, q1, q2, q3⟩ := q_mayAsk hQ2 hs (show c < 5 by omega)
        rw [p1, bnd1_some, p2, bnd1_some, q1, bnd1_some]
        unfold M_X9_asked
        rw [q2, bnd1_some]
        rcases q3 with ⟨rfl, rfl⟩ | ⟨rfl, rfl⟩
        · obtain ⟨ht, h4, hl, h18, hTI, hTC, hTM⟩ := gR_mid hQ2.1
          obtain ⟨hW2, _, _, _⟩ := q_bd hQ2
          have hI2 := hQ2.2.2.2.2.1
          obtain ⟨σp, y1, y2, y3⟩ := c_play hQ2 (q := 108) (c := c) (by decide) (by omega)
          have lN60 : ln g2 c ≤ 60 := Nat.le_trans (ln_facts hI2 (show c < 5 by omega)).2.2.1 hW2
          have mp := m2.fq y2
          have mg := mp.got (v := envS T g2 (lf g2 c) (ln g2 c) k) hs
          obtain ⟨gX, A1, A2, A3, A4, A5⟩ := mg.seens (nI k) hT1 hs hc5
          obtain ⟨gY, B1, B2, B3, B4, B5⟩ := m2.seens (nI k) hT1 hs hc5
          have hQB := B3.qd hT1
          obtain ⟨τC, C1, C2, C3, _⟩ := m_doesAll hQB (show c < 5 by omega)
          -- the same log, the same cells
          have lc := lg_cong (g := g2) (g' := gY) (P := hsP g2 c) (P' := hsP gY c) (k := gK g2 c) (fun x => B4 _ _ _ (by decide)) (fun x => B4 _ _ _ (by decide)) (fun x => B4 _ _ _ (by decide)) (B4 _ _ _ (by decide)) (fun w _ => by show decide (gA gY c w = 1) = decide (gA g2 c w = 1); rw [show gA gY c w = gA g2 c w from B4 _ _ _ (by decide)])
          have eK : gK gY c = gK g2 c := B4 _ _ _ (by decide)
          have eln : ln gY c = ln g2 c := by show lgn gY (hsP gY c) (gK gY c) = _; rw [eK]; exact lc.2
          have elf : lf gY c = lf g2 c := by show lgf gY (hsP gY c) (gK gY c) = _; rw [eK]; exact lc.1
          have eX : ∀ w, iX gY w = iX g2 w := fun w => by show gY.2 0 w = g2.2 0 w; rw [B5]
          have hd := doS_cong (T := T) (g := g2) (g' := gY) (fun w => B4 _ _ _ (by decide)) eX (fun w => B4 _ _ _ (by decide)) (fun w => B4 _ _ _ (by decide))
          have eenv : envS T gY (lf gY c) (ln gY c) k = envS T g2 (lf g2 c) (ln g2 c) k := by
            rw [eln, elf, envS_cong (n := ln g2 c) hd (fun _ _ => rfl) (ln g2 c) (Nat.le_refl _)]
          -- the model's row at the end
          have hrow : (uI τC 26 (50 + 14 * s + 2) (envS T g2 (lf g2 c) (ln g2 c) k)).1 26 = (rI (uI τ2 26 (50 + 14 * s + 2) (envS T g2 (lf g2 c) (ln g2 c) k)) 26 (seM ((uI τ2 26 (50 + 14 * s + 2) (envS T g2 (lf g2 c) (ln g2 c) k)).1 26) s (fun o => max (gE (uV g2 6 s (envS T g2 (lf g2 c) (ln g2 c) k)) s o) (vecN (uV g2 6 s (envS T g2 (lf g2 c) (ln g2 c) k)) c o (gW (uV g2 6 s (envS T g2 (lf g2 c) (ln g2 c) k))))) (tN T))).1 26 := by
            rw [row_uI, rI_at, row_uI, C2.2.1, rI_at]
            have evec : ∀ o, vecN (uV g2 6 s (envS T g2 (lf g2 c) (ln g2 c) k)) c o (gW g2) = vecN g2 c o (gW g2) := fun o => vec_cong (g := g2) (g' := uV g2 6 s (envS T g2 (lf g2 c) (ln g2 c) k)) (fun _ _ _ _ => rfl) _
            funext j
            unfold seM
            show upd _ _ _ j = if 50 + 14 * s + 3 ≤ j ∧ j < 50 + 14 * s + 3 + tN T then nI (max (gE g2 s (j - (50 + 14 * s + 3))) (vecN (uV g2 6 s (envS T g2 (lf g2 c) (ln g2 c) k)) c (j - (50 + 14 * s + 3)) (gW g2))) else _
            rw [evec]
            by_cases hj : j = 50 + 14 * s + 2
            · subst hj
              rw [pk_us, if_neg (by omega), pk_us]
            · rw [pk_un hj]
              by_cases hr : 50 + 14 * s + 3 ≤ j ∧ j < 50 + 14 * s + 3 + tN T
              · rw [if_pos hr, if_pos hr]
              · rw [if_neg hr, if_neg hr, pk_un hj]
          have mF : Mid T g σ1 τ1 gX (rL (uL σp 29 (52 + s) (envS T g2 (lf g2 c) (ln g2 c) k).toInt64) 29 (seC ((uL σp 29 (52 + s) (envS T g2 (lf g2 c) (ln g2 c) k).toInt64).2.1 29) s (fun o => max (gE (uV g2 6 s (envS T g2 (lf g2 c) (ln g2 c) k)) s o) (vecN (uV g2 6 s (envS T g2 (lf g2 c) (ln g2 c) k)) c o (gW (uV g2 6 s (envS T g2 (lf g2 c) (ln g2 c) k))))) (tN T))) (uI τC 26 (50 + 14 * s + 2) (envS T g2 (lf g2 c) (ln g2 c) k)) := by
            obtain ⟨z1, z2, z3, z4, z5, z6, z7⟩ := A3
            refine ⟨z1, KM.uI rfl (by decide) (B3.2.1.trans C2.1), ?_, z4, z5, by rw [hrow]; exact z6, z7⟩
            rw [gI_uI, if_neg (by omega), C2.2.2]
            exact B3.2.2.1
          obtain ⟨g5, σ5, τ5, s1, s2, s3, _⟩ := mF.shuts hc5
          obtain ⟨τ6, x1, x2⟩ := hend _ _ _ s3
          refine ⟨1, σ5, τ6, ?_, ?_, x2⟩
          · rw [if_pos rfl, h4, chk_pos ht, y1, bnd1_some, c_last y3 lN60 hk6 hC6, bnd1_some]
            unfold M_X1_tellTo
            rw [show (52 : Int32) + nI s = nI (52 + s) from nI_add 52 s, chk_pos ((ib_nI (by omega)).mpr (by omega)), ix_nI (by omega), lt_eq, A1, bnd1_some]
            show bnd1 (some _) _ = _
            rw [bnd1_some]
            unfold M_X8_ask_J104
            rw [s1, bnd1_some, if_pos rfl]
          · rw [if_pos n01, lt_eq, b50, B2, bnd1_some]
            show bnd2 (bnd1 (M_X9_doesAll (rI τ2 26 (seM (τ2.1 26) s (fun o => max (gE g2 s o) (vecN g2 c o (gW g2))) (tN T))) (nI c)) _) _ = _
            rw [C1, bnd1_some, chk_pos ((ib_nI (by omega)).mpr (by omega)), show nI (50 + 14 * s) + 2 = nI (50 + 14 * s + 2) from nI_add _ 2, chk_pos ((ib_nI (by omega)).mpr (by omega)), ix_nI (show 50 + 14 * s + 2 < 2 ^ 31 by omega), ix_nI (show k < 2 ^ 31 by omega), C3.2.2.2 k hk6, eenv, lt_eq, bnd2_some, s2, bnd1_some, x1, bnd1_some]
        · obtain ⟨g5, σ5, τ5, w1, w2, w3, _⟩ := m2.refuse hs
          obtain ⟨g6, σ6, τ6, y1, y2, y3, _⟩ := w3.shuts hc5
          obtain ⟨τ7, x1, x2⟩ := hend _ _ _ y3
          refine ⟨0, σ6, τ7, ?_, ?_, x2⟩
          · rw [if_neg n10, w1, bnd1_some]
            unfold M_X8_ask_J104
            rw [y1, bnd1_some, if_neg n10]
          · rw [if_neg z00, w2, bnd2_some, bnd2_some, y2, bnd1_some, x1, bnd1_some]
      · rw [f1, bnd1_some, if_neg z00, f2, bnd1_some, if_neg z00]
        exact ⟨_, _, _, rfl, rfl, h0⟩
    · rw [e1, bnd1_some, if_pos rfl, e2, bnd1_some, if_pos rfl]
      exact ⟨_, _, _, rfl, rfl, h0⟩
  · rw [c_isSession_f ha, bnd1_some, if_pos rfl, m_isSession_f ha, bnd1_some, if_pos rfl]
    exact ⟨_, _, _, rfl, rfl, h0⟩
