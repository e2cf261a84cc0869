/-! expressions: the loop, after a unit -/
section EB0
variable {u : Nat → Nat} {e n0 g l P fl : Nat} {σ0 τ0 σ τ : Wd}
theorem J145_no (h8 : M_X9_is τ 8 = some 0) (h9 : M_X9_is τ 9 = some 0) (h10 : M_X9_is τ 10 = some 0) (h15 : M_X9_is τ 15 = some 0) : M_X9_expression_J145 τ 0 = some (.inr (.inl τ)) := by
  unfold M_X9_expression_J145
  rw [h8, bnd1_some, if_neg z00, h9, bnd1_some, if_neg z00, h10, bnd1_some, if_neg z00, h15, bnd1_some, if_pos rfl]
  unfold M_X9_expression_J186
  rw [if_neg z00]
theorem J145_op (hB : Bs u e n0 g l P fl 0 σ0 τ0 σ τ) (hK : kTk u e P = 8 ∨ kTk u e P = 9 ∨ kTk u e P = 10 ∨ kTk u e P = 15) : M_X9_expression_J145 τ 0 = M_X9_expression_J234 τ 0 1 (if rkW (kTk u e P) = 2 then 1 else 0) := by
  have i8 : M_X9_is τ 8 = _ := b_is hB (k := 8) (by decide)
  have i9 : M_X9_is τ 9 = _ := b_is hB (k := 9) (by decide)
  have i10 : M_X9_is τ 10 = _ := b_is hB (k := 10) (by decide)
  have i15 : M_X9_is τ 15 = _ := b_is hB (k := 15) (by decide)
  unfold M_X9_expression_J145 M_X9_expression_J181 M_X9_expression_J186 M_X9_expression_J229
  rw [i8, i9, i10, i15]
  rcases hK with z | z | z | z <;> rw [z] <;> rfl
theorem B96_x {n : Nat} (h7 : M_X9_is τ 7 = some 0 ∨ gI τ 0 12 ≤ 0) (hs : ∃ r, M_X9_is τ 7 = some r) : B96 (n + 1) τ = M_X9_expression_J145 τ 0 := by
  unfold B96
  rw [it_x (x := τ) (by
    show M_X9_expression_L96 0 τ = _
    unfold M_X9_expression_L96
    obtain ⟨r, hr⟩ := hs
    rw [hr, bnd1_some]
    by_cases q : r = 0
    · rw [if_pos q]
    · rw [if_neg q]
      rcases h7 with z | z
      · rw [hr] at z
        exact absurd (Option.some.inj z) q
      · rw [if_pos z]), bnd1_some]
end EB0
section EB
variable {u : Nat → Nat} {e n0 g l P fl a nc : Nat} {σ0 τ0 σ1 τ1 : Wd}
theorem loop_B {s w d v5 n n2 n3 : Nat} {v : Int32} {W : Nat → Nat} {cs : List (Nat × Int32)} {σ τ : Wd} (h : EX u e n0 g l P fl a nc σ0 τ0 σ1 τ1 s w d 1 W cs σ τ) (hv : v5 ≤ 400) (hn : 1 ≤ n) (hn3 : 1 ≤ n3)
    (IHA : ∀ s' w' W' cs' σ' τ', EX u e n0 g l (P + 1) fl a nc σ0 τ0 σ1 τ1 s' w' d 0 W' cs' σ' τ' → ∃ σx x, iter (cbL v) n (nI d, 1, 1, nI (v5 + 1), σ') = some σx ∧ cntL n2 (B23 FU τ') = some x ∧ FinL u e n0 g l (P + 1) fl a nc σ0 τ0 σ1 τ1 σx x)
    (IHB : ∀ s' w' d' W' cs' σ' τ', EX u e n0 g l (P + 1) fl a nc σ0 τ0 σ1 τ1 s' w' d' 1 W' cs' σ' τ' → ∃ σx x, iter (cbL v) n (nI d', 0, 1, nI (v5 + 1), σ') = some σx ∧ cntL (n2 + 1) (B96 n3 τ') = some x ∧ FinL u e n0 g l (P + 1) fl a nc σ0 τ0 σ1 τ1 σx x) :
    ∃ σx x, iter (cbL v) (n + 1) (nI d, 0, 1, nI v5, σ) = some σx ∧ cntL (n2 + 1) (B96 (n3 + 1) τ) = some x ∧ FinL u e n0 g l P fl a nc σ0 τ0 σ1 τ1 σx x := by
  have hbd := Wt_bd h.2.2.1
  have hB := h.1
  obtain ⟨b1, b2, b3, b4, b5⟩ := h.2.1
  obtain ⟨w1, w2, w3, _⟩ := h.2.2.1
  have hg := hB.2.1.2.2.2.2.2.1
  have hl := hB.2.2.1.2.2.2.2.1
  have h27 := hB.2.1.2.2.2.1
  have h13 := hB.2.2.1.2.2.1
  have h11 := hB.2.2.1.2.1
  have hP : P ≤ 400 := hB.1.2.1
  obtain ⟨st, kd⟩ := b_start hB
  have hVK := (kTk_VK (u := u) (e := e) (k := P)).1
  have hisop : M_X3_isOperator (nI (ck (kTk u e P))) = _ := isop_t ⟨kTk u e P, VK_lt hVK⟩ hVK
  have is7 : M_X9_is τ 7 = _ := b_is hB (k := 7) (by decide)
  obtain ⟨n', rfl⟩ : ∃ n', n = n' + 1 := ⟨n - 1, by omega⟩
  have pre : cbL v (nI d, 0, 1, nI v5, σ) = M_X3_takeExpression_J100 σ v (nI d) 0 1 (nI v5) (nI (ck (kTk u e P))) := by
    show M_X3_takeExpression_L31 v (nI d) 0 1 (nI v5) σ = _
    unfold M_X3_takeExpression_L31
    rw [if_neg (show ¬ (400 : Int32) < nI v5 from fun z => by have := (nI_ltI (a := 400) (by omega) (by omega)).mp z; omega), if_neg n10, h27, if_neg z00, kd, bnd1_some, if_pos rfl]
  unfold M_X3_takeExpression_J100 at pre
  rw [if_pos rfl, hisop, bnd1_some] at pre
  by_cases kop : kTk u e P = 8 ∨ kTk u e P = 9 ∨ kTk u e P = 10 ∨ kTk u e P = 15
  · have hop : opK (kTk u e P) := Or.inr kop
    have hr : rkW (kTk u e P) = 1 ∨ rkW (kTk u e P) = 2 := by rcases kop with z | z | z | z <;> rw [z] <;> decide
    rw [decide_eq_true kop, if_neg (show ¬ boI true = 0 by decide), rank_t hop, bnd1_some] at pre
    obtain ⟨s', w', cs', σ', τ', y1, y2, y3, y4, y5⟩ := h.outs hr rfl
    have hbd' := Wt_bd y4.2.2.1
    have hB' := y4.1
    obtain ⟨c1, c2, _⟩ := y4.2.2.1
    have hg' := hB'.2.1.2.2.2.2.2.1
    have hBp : Bs u e n0 g l P fl 0 σ0 τ0 (puC σ' w' (nI (ck (kTk u e P)))) (puM τ' w' (nI (kTk u e P))) := by
      unfold puC puM
      exact Bs.wM (Bs.wM (Bs.wC (Bs.wC hB' (by omega) (fun z => by omega) (fun z => by omega)) (by omega) (fun z => ⟨by decide, by decide, by decide⟩) (fun z => by omega)) (by unfold okm; omega) (fun z => absurd z (by decide))) (by unfold okm; omega) (fun _ => ⟨by decide, by decide, by decide, by decide⟩)
    have tk := b_take hBp (k := kTk u e P) hVK (by omega)
    have go := b_goes hBp
    rw [if_pos rfl] at tk
    rw [y2, bnd1_some, c_put c1 (by omega), bnd1_some, tk, bnd1_some] at pre
    simp only [lt_eq] at pre
    rw [nI_1] at pre
    have sM : B96 (n3 + 1) τ = some (.inl (1, if P < 400 then uI (puM τ' w' (nI (kTk u e P))) 0 11 (nI (P + 1)) else flM (puM τ' w' (nI (kTk u e P))) 2 (sq u e P))) := by
      rw [B96_x (Or.inl (by rw [is7, decide_eq_false (by omega)]; rfl)) ⟨_, is7⟩, J145_op hB kop]
      unfold M_X9_expression_J234
      obtain ⟨_, _, _, _, m1, _⟩ := hB'.row
      have h11' := hB'.2.2.1.2.1
      rw [y3, bnd1_some, h11', c2, chk_pos ((ib_nI (by omega)).mpr (by omega)), chk_pos ((ib_nI (by omega)).mpr (by omega)), ix_nI (by omega), ix_nI (by omega), m1]
      simp only [lt_eq]
      rw [show gI (uI τ' 22 w' (nI (kTk u e P))) 0 37 = nI w' by rw [gI_uI, if_neg (by omega)]; exact c2, nI_1, show uI (uI τ' 22 w' (nI (kTk u e P))) 0 37 (nI (w' + 1)) = puM τ' w' (nI (kTk u e P)) from rfl, go, bnd1_some]
    rw [sM]
    by_cases h4 : P < 400
    · rw [if_pos h4] at pre ⊢
      have hq := y4.sign h4 rfl hop (by omega) (by
        rcases y5 with z | z
        · rw [z]; unfold trW; rw [if_pos rfl]; omega
        · unfold trW
          by_cases q : w' = 0
          · rw [if_pos q]; omega
          · rw [if_neg q]; exact z)
      obtain ⟨σx, x, z1, z2, z3⟩ := IHA _ _ _ _ _ _ hq
      refine ⟨σx, x, (it_s pre).trans z1, ?_, FinL_up z3 (by omega) (fun z => z)⟩
      show iter mbL (n2 + 1) (1, _) = some x
      rw [it_cnt, mbL_1 hq.1.2.2.1.2.2.1]
      exact z2
    · rw [if_neg h4] at pre ⊢
      have hF := hBp.fault (f := 2) (Or.inr rfl)
      refine ⟨_, .inr (flM (puM τ' w' (nI (kTk u e P))) 2 (sq u e P)), (it_s pre).trans (cbL_F hF.ne.1), ?_, FinL_F hF (show w' + 1 ≤ 32 by omega) (flC_25 (by unfold puC; exact gI_s))⟩
      exact it_x (body := mbL) (n := n2) (s := ((1 : Int32), flM (puM τ' w' (nI (kTk u e P))) 2 (sq u e P))) (mbL_F hF.ne.2.1)
  · have i8 : M_X9_is τ 8 = _ := b_is hB (k := 8) (by decide)
    have i9 : M_X9_is τ 9 = _ := b_is hB (k := 9) (by decide)
    have i10 : M_X9_is τ 10 = _ := b_is hB (k := 10) (by decide)
    have i15 : M_X9_is τ 15 = _ := b_is hB (k := 15) (by decide)
    rw [decide_eq_false (by omega)] at i8 i9 i10 i15
    have jno := J145_no (τ := τ) i8 i9 i10 i15
    rw [decide_eq_false kop, if_pos (show boI false = 0 from rfl)] at pre
    by_cases hd : d = 0
    · subst hd
      rw [if_pos (show nI 0 ≤ 0 by decide)] at pre
      simp only [lt_eq] at pre
      rw [nI_1] at pre
      refine ⟨σ, .inl τ, (it_s pre).trans (it_x ?_), ?_, Or.inl ⟨τ, P, fl, s, w, W, cs, rfl, Nat.le_refl _, fun z => z, h⟩⟩
      · show M_X3_takeExpression_L31 v (nI 0) 0 0 (nI (v5 + 1)) σ = _
        unfold M_X3_takeExpression_L31
        by_cases q : (400 : Int32) < nI (v5 + 1)
        · rw [if_pos q]
        · rw [if_neg q, if_pos rfl]
      · rw [B96_x (Or.inr (by rw [b3]; decide)) ⟨_, is7⟩, jno]
        rfl
    · obtain ⟨s', w', cs', σ', τ', y1, y2, y3, y4, y5⟩ := h.outs (r := 1) (v := 0) (Or.inl rfl) rfl
      have hbd' := Wt_bd y4.2.2.1
      have hB' := y4.1
      obtain ⟨c1, c2, c3, c4, c5, _⟩ := y4.2.2.1
      obtain ⟨e1, e2, e3, e4, e5⟩ := y4.2.1
      obtain ⟨w2', rfl⟩ : ∃ w2', w' = w2' + 1 := ⟨w' - 1, by omega⟩
      obtain ⟨d2, rfl⟩ : ∃ d2, d = d2 + 1 := ⟨d - 1, by omega⟩
      have htop : W w2' = 6 := by
        rcases y5 with z | z
        · omega
        · rw [Nat.add_sub_cancel] at z
          refine Classical.byContradiction fun q => ?_
          have : 1 ≤ rkW (W w2') := by
            unfold rkW
            rw [if_neg q]
            split <;> omega
          omega
      have hcl : M_X3_closeNest σ = some (uI σ' 2 5 (nI w2')) := by
        unfold M_X3_closeNest
        rw [show M_X3_letOut σ 1 = some σ' from y2, bnd1_some, c1, if_neg (show ¬ nI (w2' + 1) ≤ 0 from fun z => by have := (nI_leI (b := 0) (by omega) (by omega)).mp z; omega), nI_p1 (by omega), Nat.add_sub_cancel]
        rfl
      have hg' := hB'.2.1.2.2.2.2.2.1
      have hBc : Bs u e n0 g l P fl 0 σ0 τ0 (uI σ' 2 5 (nI w2')) τ' := Bs.wC hB' (by omega) (fun z => ⟨by decide, by decide, by decide⟩) (fun z => by omega)
      have tk := b_take hBc (k := 7) (by decide) (by decide)
      have tk : M_X3_take (uI σ' 2 5 (nI w2')) 41 = _ := tk
      rw [if_neg (show ¬ nI (d2 + 1) ≤ 0 from fun z => by have := (nI_leI (b := 0) (by omega) (by omega)).mp z; omega)] at pre
      simp only [lt_eq, hcl, bnd1_some, tk] at pre
      rw [nI_1, show nI (d2 + 1) + (-1 : Int32) = nI d2 from dec5 ⟨d2 + 1, by omega⟩ (by show 1 ≤ d2 + 1; omega)] at pre
      have nd0 : ¬ gI τ 0 12 ≤ 0 := by rw [b3]; exact fun z => by have := (nI_leI (b := 0) (by omega) (by omega)).mp z; omega
      by_cases k7 : kTk u e P = 7
      · rw [if_pos k7] at pre
        have hBm : Bs u e n0 g l P fl 0 σ0 τ0 (uI σ' 2 5 (nI w2')) (uI (uI τ' 0 37 (nI w2')) 0 12 (nI d2)) := Bs.wM (Bs.wM hBc (by unfold okm; omega) (fun _ => ⟨by decide, by decide, by decide, by decide⟩)) (by unfold okm; omega) (fun _ => ⟨by decide, by decide, by decide, by decide⟩)
        have go := b_goes hBm
        have sM : M_X9_expression_L96 0 τ = some (.inl (if P < 400 then uI (uI (uI τ' 0 37 (nI w2')) 0 12 (nI d2)) 0 11 (nI (P + 1)) else flM (uI (uI τ' 0 37 (nI w2')) 0 12 (nI d2)) 2 (sq u e P))) := by
          unfold M_X9_expression_L96
          rw [is7, bnd1_some, decide_eq_true k7, if_neg (show ¬ boI true = 0 by decide), if_neg nd0, y3, bnd1_some]
          simp only [lt_eq]
          rw [c2, nI_p1 (by omega), Nat.add_sub_cancel, show gI (uI τ' 0 37 (nI w2')) 0 12 = nI (d2 + 1) by rw [gI_uI, if_neg (by omega)]; exact e3, nI_p1 (by omega), Nat.add_sub_cancel, go, bnd1_some]
        have eB : ∀ τz, M_X9_expression_L96 0 τ = some (.inl τz) → B96 (n3 + 1) τ = B96 n3 τz := fun τz hz => by
          unfold B96
          rw [it_s hz]
        by_cases h4 : P < 400
        · rw [if_pos h4] at pre sM
          obtain ⟨σx, x, z1, z2, z3⟩ := IHB _ _ _ _ _ _ _ (y4.shut h4 k7 htop)
          exact ⟨σx, x, (it_s pre).trans z1, by rw [eB _ sM]; exact z2, FinL_up z3 (by omega) (fun z => z)⟩
        · rw [if_neg h4] at pre sM
          obtain ⟨σf, τf, q1, q2, q3, q4, q5, q6⟩ := hBm.fault (f := 2) (Or.inr rfl)
          have o12 : ∀ c j, ¬ (c = 0 ∧ (j = 13 ∨ j = 14 ∨ j = 12 ∨ j = 37)) → gI (flM (uI (uI τ' 0 37 (nI w2')) 0 12 (nI d2)) 2 (sq u e P)) c j = gI τ' c j := fun c j z => by unfold flM; rw [gI_uI, if_neg (by omega), gI_uI, if_neg (by omega), gI_uI, if_neg (by omega), gI_uI, if_neg (by omega)]
          have o37 : gI (flM (uI (uI τ' 0 37 (nI w2')) 0 12 (nI d2)) 2 (sq u e P)) 0 37 = nI w2' := by unfold flM; rw [gI_uI, if_neg (by omega), gI_uI, if_neg (by omega), gI_uI, if_neg (by omega), gI_s]
          obtain ⟨τx, t1, t2⟩ := G_fin q6 (w := w2') (i := 420 * l + s') o37 (by omega) ((o12 _ _ (by omega)).trans e2) (by omega) (by omega)
          obtain ⟨n4, rfl⟩ : ∃ n4, n3 = n4 + 1 := ⟨n3 - 1, by omega⟩
          refine ⟨flC (uI σ' 2 5 (nI w2')) 2 (sq u e P), .inl (flM (uI (uI τ' 0 37 (nI w2')) 0 12 (nI d2)) 2 (sq u e P)), (it_s pre).trans (cbL_F q5.2.1), ?_, Or.inr ⟨τx, w2', t1, ⟨σf, τf, q1, q2, q3, q4, q5, t2⟩, by omega, flC_25 gI_s⟩⟩
          rw [eB _ sM, B96_x (Or.inl (G_is q6 7)) ⟨_, G_is q6 7⟩, J145_no (G_is q6 8) (G_is q6 9) (G_is q6 10) (G_is q6 15)]
          rfl
      · rw [if_neg k7] at pre
        have hF := FLT_mk hBc hB (f := 1) (Or.inl rfl)
        obtain ⟨σf, τf, q1, q2, q3, q4, q5, q6⟩ := hF
        have o12 : ∀ c j, ¬ (c = 0 ∧ (j = 13 ∨ j = 14)) → gI (flM τ 1 (sq u e P)) c j = gI τ c j := fun c j z => by unfold flM; rw [gI_uI, if_neg (by omega), gI_uI, if_neg (by omega)]
        obtain ⟨τx, t1, t2⟩ := G_out q6 (w := w) (i := 420 * l + s) ((o12 _ _ (by omega)).trans w2) (by omega) ((o12 _ _ (by omega)).trans b2) (by omega) (by omega)
        refine ⟨flC (uI σ' 2 5 (nI w2')) 1 (sq u e P), .inl τ, (it_s pre).trans (cbL_F q5.2.1), ?_, Or.inr ⟨τx, w2', ?_, ⟨σf, τf, q1, q2, q3, q4, q5, t2⟩, by omega, flC_25 gI_s⟩⟩
        · rw [B96_x (Or.inl (by rw [is7, decide_eq_false k7]; rfl)) ⟨_, is7⟩, jno]
          rfl
        · have f1 : M_X9_fail τ 1 = _ := (b_fail hB (f := 1) (Or.inl rfl)).2
          show (if gI τ 0 12 ≤ 0 then M_X9_expression_J204 τ else bnd1 (M_X9_fail τ 1) fun s_201 => M_X9_expression_J204 s_201) = _
          rw [if_neg nd0, f1, bnd1_some]
          unfold M_X9_expression_J204
          rw [t1, bnd1_some]
end EB
