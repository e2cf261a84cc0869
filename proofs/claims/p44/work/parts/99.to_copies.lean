/-! the law's end: each copy -/
section CO
variable {T : Td} {g : Gs} {un : Nat} {hs sl : Nat → Gs} {hl : Nat → Nat} {σ : Wd} {q : Lq}
theorem g_loop2026 (hL : LQ T q) {v8 v9 v10 v11 : Int32} {c : Nat} (hc : c < tN T) : ∀ (i d fu : Nat) (σ : Wd), i + d = ln g c → i < fu → At T g un hs sl hl σ → ∃ σ', iter (fun s : Int32 × Int32 × Int32 × Int32 × Int32 × Int32 × Wd => M_L_law_L2026 q (nI (tN T)) (nI (tC T)) v8 v9 v10 v11 (nI c) (nI (ln g c)) s.1 s.2.1 s.2.2.1 s.2.2.2.1 s.2.2.2.2.1 s.2.2.2.2.2.1 s.2.2.2.2.2.2) fu ((1 : Int32), nI (tcN (fun i => decide (outS T g (lf g c) i = 1)) d i), nI (tcN (fun i => decide (outS T g (lf g c) i = 2) || decide (outS T g (lf g c) i = 3)) d i), clS T g (lf g c) d i, moV (moN T g c d i), nI i - 1, σ) = some ((1 : Int32), nI (mgN T g c), nI (idN T g c), clS T g (lf g c) (ln g c) 0, moV (moN T g c (ln g c) 0), σ') ∧ At T g un hs sl hl σ' := by
  intro i
  induction i with
  | zero =>
    intro d fu σ hd hf h
    obtain ⟨m, rfl⟩ : ∃ m, fu = m + 1 := ⟨fu - 1, by omega⟩
    obtain rfl : d = ln g c := by omega
    refine ⟨σ, it_x ?_, h⟩
    show M_L_law_L2026 q (nI (tN T)) (nI (tC T)) v8 v9 v10 v11 (nI c) (nI (ln g c)) (1 : Int32) _ _ _ _ (nI 0 - 1) σ = _
    unfold M_L_law_L2026
    rw [if_pos (by decide), tcN_0, tcN_0]
    rfl
  | succ i ih =>
    intro d fu σ hd hf h
    obtain ⟨m, rfl⟩ : ∃ m, fu = m + 1 := ⟨fu - 1, by omega⟩
    have n5 := h.n5
    have lw := h.lnW hc
    have hi : i < ln g c := by omega
    obtain ⟨σ1, e1, h1⟩ := x_log h (i := i) hc (by omega)
    obtain ⟨σ2, e2, h2⟩ := x_outcome h1 hc hi
    obtain ⟨⟨σ3, e3, h3⟩, _⟩ := x_hangs h2 hc hi
    obtain ⟨_, σ4, e4, h4⟩ := x_hangs h3 hc hi
    obtain ⟨σ5, e5, h5⟩ := g_loop2079 (q := q) (v5 := 1) (v6 := nI (tN T)) (v8 := v8) (v9 := v9) (v10 := v10) (v11 := v11) (v13 := nI (ln g c)) (v14 := nI (tcN (fun i => decide (outS T g (lf g c) i = 1)) d (i + 1))) (v15 := nI (tcN (fun i => decide (outS T g (lf g c) i = 2) || decide (outS T g (lf g c) i = 3)) d (i + 1))) (v16 := clS T g (lf g c) d (i + 1)) (v17 := moV (moN T g c d (i + 1))) (v19 := nI (lf g c i)) (v20 := outS T g (lf g c) i) (v21 := nI (cH T g (lf g c) i (ln g c))) (v22 := fH T g (lf g c) i (ln g c)) hc hi (tC T) 0 FU σ4 (by omega) (FU_big (by omega)) h4
    have hmo : moN T g c d (i + 1) < 2 ^ 30 := by
      have := moN_le (T := T) (g := g) (c := c) (m := ln g c) d (i + 1) (fun j _ _ => Nat.le_trans (cH_lt (ln g c)) (Nat.sub_le _ _))
      omega
    obtain ⟨σ6, e6, h6⟩ := g_2120 (v8 := v8) (v9 := v9) (v10 := v10) (v11 := v11) (a := tcN (fun i => decide (outS T g (lf g c) i = 1)) d (i + 1)) (b := tcN (fun i => decide (outS T g (lf g c) i = 2) || decide (outS T g (lf g c) i = 3)) d (i + 1)) (v16 := clS T g (lf g c) d (i + 1)) hL h5 hc hi hmo
    obtain ⟨σ7, r1, r2⟩ := ih (d + 1) m σ6 (by omega) (by omega) h6
    refine ⟨σ7, (it_s ?_).trans r1, r2⟩
    show M_L_law_L2026 q (nI (tN T)) (nI (tC T)) v8 v9 v10 v11 (nI c) (nI (ln g c)) (1 : Int32) _ _ _ _ (nI (i + 1) - 1) σ = _
    unfold M_L_law_L2026
    rw [show nI (i + 1) - (1 : Int32) = nI i by rw [nI_pred1 (by omega)]; rfl, if_neg (nI_n0 (by omega)), e1, bnd2_some, if_pos hi, e2, bnd2_some, e3, bnd2_some, e4, bnd2_some]
    rw [show ((0 : Int32), (0 : Int32), σ4) = (nI (chgN T g (lf g c) i 0), nI 0, σ4) from rfl, e5, bnd1_some]
    rw [show nI i + (-1 : Int32) = nI i - 1 from (Int32.sub_eq_add_neg ..).symm] at e6
    exact e6
/-- the cells of one copy -/
theorem g_loop2458 (hL : LQ T q) {v8 v9 v10 v11 : Int32} {c : Nat} (hc : c < tN T) : ∀ (d k fu : Nat) (σ : Wd), k + d = tC T → d < fu → At T g un hs sl hl σ → ∃ σ', iter (fun s : Int32 × Int32 × Wd => M_L_law_L2458 q (nI (tN T)) (nI (tC T)) v8 v9 v10 v11 (nI c) (nI (ln g c)) s.1 s.2.1 s.2.2) fu ((1 : Int32), nI k, σ) = some (1, σ') ∧ At T g un hs sl hl σ' := by
  intro d
  induction d with
  | zero =>
    intro k fu σ hk hf h
    obtain ⟨m, rfl⟩ : ∃ m, fu = m + 1 := ⟨fu - 1, by omega⟩
    obtain rfl : k = tC T := by omega
    have n5 := h.n5
    refine ⟨σ, it_x ?_, h⟩
    show M_L_law_L2458 q (nI (tN T)) (nI (tC T)) v8 v9 v10 v11 (nI c) (nI (ln g c)) 1 (nI (tC T)) σ = _
    unfold M_L_law_L2458
    rw [if_pos ((nI_leI (by omega) (by omega)).mpr (Nat.le_refl _))]
  | succ d ih =>
    intro k fu σ hk hf h
    obtain ⟨m, rfl⟩ : ∃ m, fu = m + 1 := ⟨fu - 1, by omega⟩
    have n5 := h.n5
    have lw := h.lnW hc
    have hc4 := hL.c4
    have hkC : k < tC T := by omega
    have lx := ln_facts h.inv (show c < 5 by omega)
    obtain ⟨σ1, e1, h1⟩ := x_setter h hc hkC
    obtain ⟨σ2, e2, h2⟩ := x_behind h1 (i := 0) hc hkC (by omega)
    obtain ⟨σ3, e3, h3⟩ := x_behind h2 (i := ln g c) hc hkC (Nat.le_refl _)
    obtain ⟨⟨σ4, e4, h4⟩, _⟩ := x_cell h3 hc hkC
    obtain ⟨σ5, e5, h5⟩ := x_copy h4 (c := c) (k := 2) (by omega) (by decide)
    have ec : copyV T g c 2 = nI (gK g c) := by
      unfold copyV
      rw [if_pos hc, if_neg (by decide), if_neg (by decide), if_pos rfl]
    rw [ec] at e5
    obtain ⟨σ6, e6, h6⟩ := x_behind h5 (i := gK g c) hc hkC lw.2.1
    obtain ⟨_, σ7, e7, h7⟩ := x_cell h6 hc hkC
    have hF := hL.first k hkC
    have fin : ∃ σ8, M_L_law_L2458 q (nI (tN T)) (nI (tC T)) v8 v9 v10 v11 (nI c) (nI (ln g c)) 1 (nI k) σ = some (.inl (1, nI (k + 1), σ8)) ∧ At T g un hs sl hl σ8 := by
      have pre : ∀ {r}, (if (0 : Int32) ≤ stS T g (lf g c) k (ln g c) then M_L_law_J2574 q σ7 (nI (tN T)) (nI (tC T)) v8 v9 v10 v11 (nI c) (nI (ln g c)) (nI k) (stS T g (lf g c) k (ln g c)) else bnd2 (M_X8_cell σ7 (nI c) (nI k) 0) fun r2560 s_2560 => chk (ib (nI k) 4) (if r2560 ≠ lF q (ix (nI k)) then M_L_law_J2595 q s_2560 (nI (tN T)) (nI (tC T)) v8 v9 v10 v11 (nI c) (nI (ln g c)) (nI k) else M_L_law_J2574 q s_2560 (nI (tN T)) (nI (tC T)) v8 v9 v10 v11 (nI c) (nI (ln g c)) (nI k) (stS T g (lf g c) k (ln g c)))) = r → M_L_law_L2458 q (nI (tN T)) (nI (tC T)) v8 v9 v10 v11 (nI c) (nI (ln g c)) 1 (nI k) σ = r := fun {r} hr => by
        unfold M_L_law_L2458
        rw [if_neg (fun z => by have := (nI_leI (by omega) (by omega)).mp z; omega), e1, bnd2_some, if_neg n10, show M_X8_behind σ1 (nI c) (nI k) 0 = _ from e2, bnd2_some, chk_pos ((ib_nI (by omega)).mpr (by omega)), ix_nI (by omega), hF, if_neg (fun z => z rfl), e3, bnd2_some, e4, bnd2_some, if_neg (fun z => z rfl), show M_X8_copy σ4 (nI c) 2 = _ from e5, bnd2_some, e6, bnd2_some, e7, bnd2_some, if_neg (fun z => z rfl)]
        rw [ix_nI (by omega), hF] at hr
        exact hr
      rcases st_at (T := T) (g := g) (f := lf g c) (k := k) (ln g c) with ⟨z1, z2⟩ | ⟨j, j1, j2, j3⟩
      · obtain ⟨⟨σ8, e8, h8⟩, _⟩ := x_cell h7 hc hkC
        refine ⟨σ8, pre ?_, h8⟩
        rw [z1, if_neg (show ¬ (0 : Int32) ≤ -2 by decide), e8, bnd2_some, chk_pos ((ib_nI (by omega)).mpr (by omega)), ix_nI (by omega), hF, env_keep (ln g c) z2, if_neg (fun z => z rfl)]
        unfold M_L_law_J2574 M_L_law_J2591 M_L_law_J2596
        rw [if_pos (by decide)]
        simp only [lt_eq, nI_1]
      · obtain ⟨σ8, e8, h8⟩ := x_outcome h7 hc j1
        refine ⟨σ8, pre ?_, h8⟩
        have hjW := lx.1 j j1
        have ho : outS T g (lf g c) j = 0 ∨ outS T g (lf g c) j = 1 := by
          rcases env_step (T := T) (g := g) (f := lf g c) (i := j) with ⟨z, _⟩ | ⟨_, z, _⟩
          · omega
          · exact z
        rw [j3, if_pos (show (0 : Int32) ≤ nI (lf g c j) from (nI_leI (a := 0) (by decide) (by omega)).mpr (Nat.zero_le _))]
        unfold M_L_law_J2574 M_L_law_J2591 M_L_law_J2596
        rw [if_neg (nI_n0 (by omega)), e8, bnd2_some, if_neg (by rcases ho with z | z <;> rw [z] <;> decide)]
        simp only [lt_eq, nI_1]
    obtain ⟨σ8, e8, h8⟩ := fin
    obtain ⟨σ9, r1, r2⟩ := ih (k + 1) m σ8 (by omega) (by omega) h8
    exact ⟨σ9, (it_s e8).trans r1, r2⟩
/-- one copy beside every other -/
theorem g_loop2607 {v7 v8 v9 v10 v11 : Int32} {c : Nat} (hc : c < tN T) : ∀ (d k fu : Nat) (σ : Wd), k + d = tN T → d < fu → At T g un hs sl hl σ → ∃ σ', iter (fun s : Int32 × Int32 × Wd => M_L_law_L2607 q (nI (tN T)) v7 v8 v9 v10 v11 (nI c) (nI (ln g c)) s.1 s.2.1 s.2.2) fu ((1 : Int32), nI k, σ) = some (1, σ') ∧ At T g un hs sl hl σ' := by
  intro d
  induction d with
  | zero =>
    intro k fu σ hk hf h
    obtain ⟨m, rfl⟩ : ∃ m, fu = m + 1 := ⟨fu - 1, by omega⟩
    obtain rfl : k = tN T := by omega
    have n5 := h.n5
    refine ⟨σ, it_x ?_, h⟩
    show M_L_law_L2607 q (nI (tN T)) v7 v8 v9 v10 v11 (nI c) (nI (ln g c)) 1 (nI (tN T)) σ = _
    unfold M_L_law_L2607
    rw [if_pos ((nI_leI (by omega) (by omega)).mpr (Nat.le_refl _))]
  | succ d ih =>
    intro k fu σ hk hf h
    obtain ⟨m, rfl⟩ : ∃ m, fu = m + 1 := ⟨fu - 1, by omega⟩
    have n5 := h.n5
    have hI := h.inv
    have hkN : k < tN T := by omega
    obtain ⟨r, σ1, a1, e1, h1⟩ := x_fork h hc hkN
    obtain ⟨r', σ2, a2, e2, h2⟩ := x_fork h1 hkN hc
    obtain rfl : r = r' := AlS_u a1 (AlS_sym a2)
    obtain ⟨σ3, e3, h3⟩ := x_differ h2 hc hkN
    obtain ⟨σ4, e4, h4⟩ := x_differ h3 hkN hc
    rw [dfN_sym] at e4
    have e5 := x_alike h4 hc hkN
    have e6 := x_alike h4 hkN hc
    rw [al3_sym] at e6
    obtain ⟨σ5, e7, h5⟩ := x_copy h4 (c := c) (k := 1) (by omega) (by decide)
    have c1 : copyV T g c 1 = nI (ln g c) := by
      unfold copyV
      rw [if_pos hc, if_neg (by decide), if_pos rfl]
    have c2 : copyV T g k 1 = nI (ln g k) := by
      unfold copyV
      rw [if_pos hkN, if_neg (by decide), if_pos rfl]
    rw [c1] at e7
    have e8 := x_lacks h5 hc hkN
    obtain ⟨σ6, e9, h6⟩ := x_copy h5 (c := k) (k := 1) (by omega) (by decide)
    rw [c2] at e9
    have e10 := x_lacks h6 hkN hc
    have e11 := x_alike h6 hc hkN
    have q1 : ln g c = cnN (hsP g c) (gW g) := lgn_cn hI (by omega)
    have q2 : ln g k = cnN (hsP g k) (gW g) := lgn_cn hI (by omega)
    have q3 := cn_cap (g := g) (a := c) (b := k) (gW g)
    have q4 := cn_cap (g := g) (a := k) (b := c) (gW g)
    rw [cap_sym] at q4
    have hsub : nI (ln g c) - nI (lkN g c k (gW g)) = nI (ln g k) - nI (lkN g k c (gW g)) := by
      rw [nI_nat (by omega), nI_nat (by omega)]
      exact congrArg nI (by omega)
    have fin : ∃ σ8, M_L_law_L2607 q (nI (tN T)) v7 v8 v9 v10 v11 (nI c) (nI (ln g c)) 1 (nI k) σ = some (.inl (1, nI (k + 1), σ8)) ∧ At T g un hs sl hl σ8 := by
      have pre : ∀ {x}, (if boI (al3 g c k) = 0 then M_L_law_J2746 q σ6 (nI (tN T)) v7 v8 v9 v10 v11 (nI c) (nI (ln g c)) (nI k) else bnd2 (M_X8_differ σ6 (nI c) (nI k)) fun r2727 s_2727 => if r2727 ≠ 0 then M_L_law_J2750 q s_2727 (nI (tN T)) v7 v8 v9 v10 v11 (nI c) (nI (ln g c)) (nI k) else bnd2 (M_X8_fork s_2727 (nI c) (nI k)) fun r2738 s_2738 => if r2738 ≠ nI (ln g c) then M_L_law_J2750 q s_2738 (nI (tN T)) v7 v8 v9 v10 v11 (nI c) (nI (ln g c)) (nI k) else M_L_law_J2746 q s_2738 (nI (tN T)) v7 v8 v9 v10 v11 (nI c) (nI (ln g c)) (nI k)) = x → M_L_law_L2607 q (nI (tN T)) v7 v8 v9 v10 v11 (nI c) (nI (ln g c)) 1 (nI k) σ = x := fun {x} hx => by
        unfold M_L_law_L2607
        rw [if_neg (fun z => by have := (nI_leI (by omega) (by omega)).mp z; omega), if_neg n10, e1, bnd2_some, e2, bnd2_some, if_neg (fun z => z rfl), e3, bnd2_some, e4, bnd2_some, if_neg (fun z => z rfl), e5, bnd1_some, e6, bnd1_some, if_neg (fun z => z rfl), show M_X8_copy σ4 (nI c) 1 = _ from e7, bnd2_some, e8, bnd1_some, show M_X8_copy σ5 (nI k) 1 = _ from e9, bnd2_some, e10, bnd1_some, if_neg (fun z => z hsub), e11, bnd1_some]
        exact hx
      cases hal : al3 g c k
      · refine ⟨σ6, pre ?_, h6⟩
        rw [hal, if_pos (show boI false = 0 from rfl)]
        unfold M_L_law_J2746 M_L_law_J2751
        simp only [lt_eq, nI_1]
      · obtain ⟨σ7, e12, h7⟩ := x_differ h6 hc hkN
        rw [dfN_0 hI hal] at e12
        obtain ⟨r2, σ8, a3, e13, h8⟩ := x_fork h7 hc hkN
        obtain ⟨l1, l2⟩ := al3_log hI hal
        obtain rfl : r2 = ln g c := by
          rw [← l1, ← l2] at a3
          exact AlS_u a3 ⟨Nat.le_refl _, Nat.le_refl _, fun _ _ => rfl, Or.inl rfl⟩
        refine ⟨σ8, pre ?_, h8⟩
        rw [hal, if_neg (show ¬ boI true = 0 from n10), e12, bnd2_some, if_neg z00, e13, bnd2_some, if_neg (fun z => z rfl)]
        unfold M_L_law_J2746 M_L_law_J2751
        simp only [lt_eq, nI_1]
    obtain ⟨σ8, e12, h8⟩ := fin
    obtain ⟨σ9, r1, r2⟩ := ih (k + 1) m σ8 (by omega) (by omega) h8
    exact ⟨σ9, (it_s e12).trans r1, r2⟩
end CO
section CE2
variable {T : Td} {g : Gs} {un : Nat} {hs sl : Nat → Gs} {hl : Nat → Nat} {σ : Wd} {q : Lq}
theorem g_2604 {v7 v8 v9 v10 v11 : Int32} {c : Nat} (hc : c < tN T) (h : At T g un hs sl hl σ) : ∃ σ', M_L_law_J2604 q σ 1 (nI (tN T)) v7 v8 v9 v10 v11 (nI c) (nI (ln g c)) = some (.inl (1, nI (c + 1), σ')) ∧ At T g un hs sl hl σ' := by
  have n5 := h.n5
  obtain ⟨σ', e, h'⟩ := g_loop2607 (q := q) (v7 := v7) (v8 := v8) (v9 := v9) (v10 := v10) (v11 := v11) hc (tN T) 0 FU σ (by omega) (FU_big (by omega)) h
  refine ⟨σ', ?_, h'⟩
  unfold M_L_law_J2604 M_L_law_J2759
  rw [show ((1 : Int32), (0 : Int32), σ) = ((1 : Int32), nI 0, σ) from rfl, e, bnd1_some]
  simp only [lt_eq, nI_1]
  rfl
theorem g_2448 (hL : LQ T q) {v8 v9 v10 v11 : Int32} {c : Nat} (hc : c < tN T) (h : At T g un hs sl hl σ) : ∃ σ', M_L_law_J2448 q σ (nI (tN T)) (nI (tC T)) v8 v9 v10 v11 (nI c) (nI (ln g c)) = some (.inl (1, nI (c + 1), σ')) ∧ At T g un hs sl hl σ' := by
  have n5 := h.n5
  obtain ⟨σ1, e1, h1⟩ := g_loop2458 (v8 := v8) (v9 := v9) (v10 := v10) (v11 := v11) hL hc (tC T) 0 FU σ (by omega) (FU_big (by omega)) h
  obtain ⟨σ2, e2, h2⟩ := g_2604 (q := q) (v7 := nI (tC T)) (v8 := v8) (v9 := v9) (v10 := v10) (v11 := v11) hc h1
  refine ⟨σ2, ?_, h2⟩
  unfold M_L_law_J2448 M_L_law_J2453
  rw [show ((1 : Int32), (0 : Int32), σ) = ((1 : Int32), nI 0, σ) from rfl, e1, bnd1_some]
  exact e2
theorem nI_thou {k w : Nat} (hk : k ≤ 60) (hw : w ≤ 60) (hw0 : 0 < w) : ((1000 : Int32) * nI k) / nI w = nI (1000 * k / w) := by
  have : ∀ k : Fin 61, ∀ w : Fin 61, ((1000 : Int32) * nI k.val) / nI w.val = nI (1000 * k.val / w.val) := by decide +kernel
  exact this ⟨k, by omega⟩ ⟨w, by omega⟩
theorem g_2378 (hL : LQ T q) {v9 v10 v11 : Int32} {c : Nat} (hc : c < tN T) (h : At T g un hs sl hl σ) : ∃ σ', M_L_law_J2378 q σ (nI (tN T)) (nI (tC T)) (nI (gW g)) v9 v10 v11 (nI c) (nI (ln g c)) = some (.inl (1, nI (c + 1), σ')) ∧ At T g un hs sl hl σ' := by
  have n5 := h.n5
  have lw := h.lnW hc
  have e1 := x_lacks h hc hc
  rw [show lkN g c c (gW g) = 0 from (lkN_0 _).mpr (fun _ _ z => z)] at e1
  have e2 := x_alike h hc hc
  rw [al3_self] at e2
  obtain ⟨σ1, e3, h1⟩ := x_differ h hc hc
  rw [dfN_0 h.inv al3_self] at e3
  obtain ⟨r, σ2, a, e4, h2⟩ := x_fork h1 hc hc
  obtain rfl : r = ln g c := AlS_u a ⟨Nat.le_refl _, Nat.le_refl _, fun _ _ => rfl, Or.inl rfl⟩
  obtain ⟨σ3, e5, h3⟩ := g_2448 (v8 := nI (gW g)) (v9 := v9) (v10 := v10) (v11 := v11) hL hc h2
  refine ⟨σ3, ?_, h3⟩
  unfold M_L_law_J2378
  rw [e1, bnd1_some, if_neg (show ¬ nI 0 ≠ 0 by decide), e2, bnd1_some, if_neg (show ¬ boI true ≠ 1 from fun z => z rfl), e3, bnd2_some, if_neg z00, e4, bnd2_some, if_neg (fun z => z rfl)]
  by_cases hW : gW g = 0
  · rw [if_pos (show nI (gW g) = 0 by rw [hW]; rfl)]
    exact e5
  · have hn : ¬ nI (gW g) = 0 := fun z => hW ((nI_eq (b := 0) (by omega) (by decide)).mp z)
    rw [if_neg hn, x_share h2 hc (by omega), bnd1_some, chk_pos hn, nI_thou lw.2.2 n5.2.2.2.2.1 (by omega), if_neg (fun z => z rfl)]
    exact e5
theorem g_2300 (hL : LQ T q) {v9 v10 v11 : Int32} {c : Nat} (hc : c < tN T) (h : At T g un hs sl hl σ) : ∃ σ', M_L_law_J2300 q σ 1 (nI (tN T)) (nI (tC T)) (nI (gW g)) v9 v10 v11 (nI c) (nI (ln g c)) (nI (mgN T g c)) (nI (idN T g c)) (clS T g (lf g c) (ln g c) 0) (moV (moN T g c (ln g c) 0)) = some (.inl (1, nI (c + 1), σ')) ∧ At T g un hs sl hl σ' := by
  have n5 := h.n5
  have lw := h.lnW hc
  obtain ⟨σ1, e1, h1⟩ := x_copy h (c := c) (k := 7) (by omega) (by decide)
  obtain ⟨σ2, e2, h2⟩ := x_copy h1 (c := c) (k := 8) (by omega) (by decide)
  have c7 : copyV T g c 7 = nI (mgN T g c) := by
    unfold copyV
    rw [if_pos hc, if_neg (by decide), if_neg (by decide), if_neg (by decide), if_neg (by decide), if_pos rfl]
  have c8 : copyV T g c 8 = nI (idN T g c) := by
    unfold copyV
    rw [if_pos hc, if_neg (by decide), if_neg (by decide), if_neg (by decide), if_neg (by decide), if_neg (by decide)]
  rw [c7] at e1
  rw [c8] at e2
  obtain ⟨σ3, e3, h3⟩ := x_clash h2 hc
  obtain ⟨_, σ4, e4, h4⟩ := x_key h3 hc
  obtain ⟨⟨σ5, e5, h5⟩, _⟩ := x_key h4 hc
  have hm := moN_key (T := T) (g := g) (c := c)
  have kb := kyN_bd (T := T) (g := g) (c := c) (ln g c)
  have pre : ∀ {x}, (if moV (moN T g c (ln g c) 0) < 0 then M_L_law_J2378 q σ4 (nI (tN T)) (nI (tC T)) (nI (gW g)) v9 v10 v11 (nI c) (nI (ln g c)) else bnd2 (M_X8_key σ4 (nI c) 0) fun r2366 s_2366 => bnd2 (M_X8_hangs s_2366 (nI c) r2366 0) fun r2370 s_2370 => if r2370 ≠ moV (moN T g c (ln g c) 0) then M_L_law_J2452 q s_2370 (nI (tN T)) (nI (tC T)) (nI (gW g)) v9 v10 v11 (nI c) (nI (ln g c)) else M_L_law_J2378 q s_2370 (nI (tN T)) (nI (tC T)) (nI (gW g)) v9 v10 v11 (nI c) (nI (ln g c))) = x → M_L_law_J2300 q σ 1 (nI (tN T)) (nI (tC T)) (nI (gW g)) v9 v10 v11 (nI c) (nI (ln g c)) (nI (mgN T g c)) (nI (idN T g c)) (clS T g (lf g c) (ln g c) 0) (moV (moN T g c (ln g c) 0)) = x := fun {x} hx => by
    unfold M_L_law_J2300
    rw [if_neg n10, show M_X8_copy σ (nI c) 7 = _ from e1, bnd2_some, if_neg (fun z => z rfl), show M_X8_copy σ1 (nI c) 8 = _ from e2, bnd2_some, if_neg (fun z => z rfl), e3, bnd2_some, if_neg (fun z => z rfl), e4, bnd2_some, if_neg (fun z => z (by rw [hm]; rfl))]
    exact hx
  by_cases hz : (kyN T g c (ln g c)).1 = 0
  · obtain ⟨σ6, e6, h6⟩ := g_2378 (v9 := v9) (v10 := v10) (v11 := v11) hL hc h4
    refine ⟨σ6, pre ?_, h6⟩
    rw [hm, hz, if_pos (show moV 0 < 0 by decide)]
    exact e6
  · rcases kb.2.1 with ⟨z, _⟩ | ⟨_, j, hj, j2, j3⟩
    · exact absurd z hz
    · obtain ⟨⟨σ6, e6, h6⟩, _⟩ := x_hangs h5 hc hj
      obtain ⟨σ7, e7, h7⟩ := g_2378 (v9 := v9) (v10 := v10) (v11 := v11) hL hc h6
      refine ⟨σ7, pre ?_, h7⟩
      have hv : moV (kyN T g c (ln g c)).1 = nI (kyN T g c (ln g c)).1 := by
        unfold moV
        rw [if_neg hz]
      rw [hm, hv, if_neg (nI_n0 (by omega)), e5, bnd2_some, j2, e6, bnd2_some, ← j3, if_neg (fun z => z rfl)]
      exact e7
/-- every copy's log, and then the plan -/
theorem g_loop1985 (hL : LQ T q) {v9 v10 v11 : Int32} : ∀ (d c fu : Nat) (σ : Wd), c + d = tN T → d < fu → At T g un hs sl hl σ → ∃ σ', iter (fun s : Int32 × Int32 × Wd => M_L_law_L1985 q (nI (tN T)) (nI (tC T)) (nI (gW g)) v9 v10 v11 s.1 s.2.1 s.2.2) fu ((1 : Int32), nI c, σ) = some (1, σ') ∧ At T g un hs sl hl σ' := by
  intro d
  induction d with
  | zero =>
    intro c fu σ hk hf h
    obtain ⟨m, rfl⟩ : ∃ m, fu = m + 1 := ⟨fu - 1, by omega⟩
    obtain rfl : c = tN T := by omega
    have n5 := h.n5
    refine ⟨σ, it_x ?_, h⟩
    show M_L_law_L1985 q (nI (tN T)) (nI (tC T)) (nI (gW g)) v9 v10 v11 1 (nI (tN T)) σ = _
    unfold M_L_law_L1985
    rw [if_pos ((nI_leI (by omega) (by omega)).mpr (Nat.le_refl _))]
  | succ d ih =>
    intro c fu σ hk hf h
    obtain ⟨m, rfl⟩ : ∃ m, fu = m + 1 := ⟨fu - 1, by omega⟩
    have n5 := h.n5
    have hc : c < tN T := by omega
    have lw := h.lnW hc
    obtain ⟨σ1, e1, h1⟩ := x_copy h (c := c) (k := 1) (by omega) (by decide)
    have c1 : copyV T g c 1 = nI (ln g c) := by
      unfold copyV
      rw [if_pos hc, if_neg (by decide), if_pos rfl]
    rw [c1] at e1
    obtain ⟨σ2, e2, h2⟩ := g_loop2026 (v8 := nI (gW g)) (v9 := v9) (v10 := v10) (v11 := v11) hL hc (ln g c) 0 FU σ1 (by omega) (FU_big (by omega)) h1
    obtain ⟨σ3, e3, h3⟩ := g_2300 (v9 := v9) (v10 := v10) (v11 := v11) hL hc h2
    obtain ⟨σ4, r1, r2⟩ := ih (c + 1) m σ3 (by omega) (by omega) h3
    refine ⟨σ4, (it_s ?_).trans r1, r2⟩
    show M_L_law_L1985 q (nI (tN T)) (nI (tC T)) (nI (gW g)) v9 v10 v11 1 (nI c) σ = _
    unfold M_L_law_L1985
    rw [if_neg (fun z => by have := (nI_leI (by omega) (by omega)).mp z; omega), if_neg n10, show M_X8_copy σ (nI c) 1 = _ from e1, bnd2_some, lt_eq]
    rw [show ((1 : Int32), (0 : Int32), (0 : Int32), (-2 : Int32), (-2 : Int32), nI (ln g c) - 1, σ1) = ((1 : Int32), nI (tcN (fun i => decide (outS T g (lf g c) i = 1)) 0 (ln g c)), nI (tcN (fun i => decide (outS T g (lf g c) i = 2) || decide (outS T g (lf g c) i = 3)) 0 (ln g c)), clS T g (lf g c) 0 (ln g c), moV (moN T g c 0 (ln g c)), nI (ln g c) - 1, σ1) from rfl, e2, bnd1_some]
    exact e3
theorem f_1933 (hL : LQ T q) (h : At T g un hs sl hl σ) (h1 : hl 1 = 0) (hun : un < 20) (hW : gW g < 60) (hC : gC g < 1000) : ow (M_L_law_J1933 q σ 1 (nI (tN T)) (nI (tC T))) Q1 := by
  have n5 := h.n5
  obtain ⟨σ1, e1, hA⟩ := x_hold h (k := 0) (by decide)
  obtain ⟨σ2, e2, hB⟩ := g_loop1985 (v9 := nI (gO g)) (v10 := smN g 0 (tN T)) (v11 := nI (gP g)) hL (tN T) 0 FU σ1 (by omega) (FU_big (by omega)) hA
  unfold M_L_law_J1933 M_L_law_J1951
  rw [if_neg n10, show M_X8_hold σ 0 = _ from e1, bnd2_some, if_neg n10, x_count3 hA, bnd2_some, x_count4 hA, bnd2_some, x_count7 hA, bnd2_some, x_count5 hA, bnd2_some, show ((1 : Int32), (0 : Int32), σ1) = ((1 : Int32), nI 0, σ1) from rfl, e2, bnd1_some]
  exact f_2765 hL ⟨_, _, _, hB, rfl, rfl, h1⟩ hun hW hC
end CE2
