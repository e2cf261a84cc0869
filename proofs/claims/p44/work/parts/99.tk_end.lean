/-! the law's end, from behind -/
abbrev Q1 : Int32 × Wd → Prop := fun r => r.1 = 1
/-- what is held in the first place, nothing in the second -/
def HD (T : Td) (g0 g : Gs) (un : Nat) (σ : Wd) : Prop := ∃ hs sl hl, At T g un hs sl hl σ ∧ hl 0 = 1 ∧ sl 0 = g0 ∧ hl 1 = 0
theorem rem255 {x : Int32} {m : Nat} (h1 : 1 ≤ m) (h2 : m < 2 ^ 20) : ∃ k, k < m ∧ ((x &&& (255 : Int32)) - (x &&& (255 : Int32)) / nI m * nI m) = nI k := by
  obtain ⟨j, hj, e⟩ := pk_andE x (m := 255) 8 rfl
  have e : x &&& (255 : Int32) = nI j := e
  refine ⟨j % m, Nat.mod_lt _ (by omega), ?_⟩
  rw [e]
  exact pk_rem (by omega) (by omega) (by omega)
section FN
variable {T : Td} {g0 g : Gs} {un : Nat} {σ : Wd} {q : Lq}
theorem HD.push {hs sl : Nat → Gs} {hl : Nat → Nat} {g' : Gs} {σ' : Wd} (hA : At T g' (un + 1) (pushH hs un g) sl hl σ') (h1 : hl 0 = 1) (h2 : sl 0 = g0) (h3 : hl 1 = 0) : HD T g0 g' (un + 1) σ' := ⟨_, _, _, hA, h1, h2, h3⟩
theorem HD.restore (h : HD T g0 g un σ) : ∃ σ', M_X8_restore σ 0 = some (1, σ') ∧ HD T g0 g0 0 σ' := by
  obtain ⟨hs, sl, hl, hA, h1, h2, h3⟩ := h
  obtain ⟨σ', e, hA'⟩ := x_restore hA (k := 0) (by decide) h1
  rw [h2] at hA'
  exact ⟨σ', e, hs, sl, hl, hA', h1, h2, h3⟩
theorem f_3495 (h : HD T g0 g0 un σ) : ow (M_L_law_J3495 q σ 1 (nI (gW g0)) (nI (gO g0)) (smN g0 0 (tN T))) Q1 := by
  obtain ⟨hs, sl, hl, hA, h1, h2, h3⟩ := id h
  obtain ⟨σ', e, hs', sl', hl', hA', h1', h2', h3'⟩ := h.restore
  unfold M_L_law_J3495
  rw [if_neg n10, x_count3 hA, bnd2_some, if_neg (fun z => z rfl), x_count4 hA, bnd2_some, if_neg (fun z => z rfl), x_count7 hA, bnd2_some, if_neg (fun z => z rfl), e, bnd2_some, if_neg n10, x_count9 hA', bnd2_some, if_neg (fun z => z rfl), show (1 : Int32) = nI 1 from rfl, x_restore0 hA' (k := 1) (by decide) h3', bnd2_some, if_neg z00]
  exact ow_some.mpr rfl
theorem f_3475 (h : HD T g0 g un σ) : ow (M_L_law_J3475 q σ 1 (nI (gW g0)) (nI (gO g0)) (smN g0 0 (tN T))) Q1 := by
  obtain ⟨σ', e, h'⟩ := h.restore
  unfold M_L_law_J3475 M_L_law_J3493
  rw [if_neg n10, e, bnd2_some, if_neg n10]
  exact f_3495 h'
/-- whether one is behind what a session had or made: the law's own reckoning -/
theorem f_behind {hs sl : Nat → Gs} {hl : Nat → Nat} (hA : At T g un hs sl hl σ) {v8 v9 v10 v17 v18 v19 v21 : Int32} {o : Nat} (ho : o < tN T) : iter (fun s : Int32 × Int32 => M_L_law_L3324 q σ (nI (tN T)) v8 v9 v10 v17 v18 v19 (nI o) v21 s.1 s.2) FU ((0 : Int32), (0 : Int32)) = some (boI (bhN g o (gU g 1) (tN T) || bhN g o (gE g 1) (tN T))) := by
  have n5 := hA.n5
  have hI := hA.inv
  obtain ⟨x, h1, h2⟩ := ow_for (body := fun s : Int32 × Int32 => M_L_law_L3324 q σ (nI (tN T)) v8 v9 v10 v17 v18 v19 (nI o) v21 s.1 s.2) (Q := fun x => x = boI (bhN g o (gU g 1) (tN T) || bhN g o (gE g 1) (tN T))) (fun i s => s = (boI (bhN g o (gU g 1) i || bhN g o (gE g 1) i), nI i)) (tN T) (FU_big (by omega)) (fun i s hi hs' => by
    subst hs'
    show ow (M_L_law_L3324 q σ (nI (tN T)) v8 v9 v10 v17 v18 v19 (nI o) v21 (boI (bhN g o (gU g 1) i || bhN g o (gE g 1) i)) (nI i)) _
    obtain ⟨e1, e2⟩ := x_of hA (s := 1) (by decide) hi
    have bd := (hI.2.2.2.2.2.2.2.2.2.2.2.1 1 (by decide)).2 i
    have bv := vecN_le (c := o) (o := i) hI (gW g) (Nat.le_refl _)
    have es : (bhN g o (gU g 1) (i + 1) || bhN g o (gE g 1) (i + 1)) = ((bhN g o (gU g 1) i || decide (vecN g o i (gW g) < gU g 1 i)) || (bhN g o (gE g 1) i || decide (vecN g o i (gW g) < gE g 1 i))) := rfl
    unfold M_L_law_L3324 M_L_law_J3369
    rw [if_neg (fun z => by have := (nI_leI (by omega) (by omega)).mp z; omega), x_vector hA ho hi, bnd1_some, show M_X8_of σ 1 (nI i) 1 = _ from e2, bnd1_some, bnd1_some, show M_X8_of σ 1 (nI i) 0 = _ from e1, bnd1_some]
    simp only [lt_eq, nI_1]
    by_cases c1 : vecN g o i (gW g) < gU g 1 i
    · rw [if_pos ((nI_ltI (by omega) (by omega)).mpr c1)]
      refine ow_some.mpr ?_
      show _ = _
      rw [es, decide_eq_true c1, Bool.or_true, Bool.true_or]
      rfl
    · rw [if_neg (fun z => c1 ((nI_ltI (by omega) (by omega)).mp z))]
      by_cases c2 : vecN g o i (gW g) < gE g 1 i
      · rw [if_neg (fun z => by have := (nI_leI (by omega) (by omega)).mp z; omega)]
        refine ow_some.mpr ?_
        show _ = _
        rw [es, decide_eq_true c2, Bool.or_true, Bool.or_true]
        rfl
      · rw [if_pos ((nI_leI (by omega) (by omega)).mpr (by omega))]
        refine ow_some.mpr ?_
        show _ = _
        rw [es, decide_eq_false c1, decide_eq_false c2, Bool.or_false, Bool.or_false]) (fun s hs' => by
    subst hs'
    show ow (M_L_law_L3324 q σ (nI (tN T)) v8 v9 v10 v17 v18 v19 (nI o) v21 _ (nI (tN T))) _
    unfold M_L_law_L3324
    rw [if_pos ((nI_leI (by omega) (by omega)).mpr (Nat.le_refl _))]
    exact ow_some.mpr rfl) 0 ((0 : Int32), (0 : Int32)) (Nat.zero_le _) rfl
  rw [show iter (fun s : Int32 × Int32 => M_L_law_L3324 q σ (nI (tN T)) v8 v9 v10 v17 v18 v19 (nI o) v21 s.1 s.2) FU ((0 : Int32), (0 : Int32)) = some x from h1, h2]
/-- what any write comes out as, at any copy -/
theorem x_outAny {hs sl : Nat → Gs} {hl : Nat → Nat} (hA : At T g un hs sl hl σ) {c w : Nat} (hc : c < tN T) (hw : w < gW g) : ∃ r σ', M_X8_outcome σ (nI c) (nI w) = some (r, σ') ∧ At T g un hs sl hl σ' ∧ ¬ r < -2 := by
  have n5 := hA.n5
  have lx := ln_facts hA.inv (show c < 5 by omega)
  by_cases h : gA g c w = 1
  · obtain ⟨i, hi, rfl⟩ := lx.2.2.2.2 w hw h
    obtain ⟨σ', e, h'⟩ := x_outcome hA hc hi
    refine ⟨_, σ', e, h', ?_⟩
    have ho := (do_out (e := envS T g (lf g c) i) hA.tI (hA.inv.2.2.2.2.2.2.2.2.2.1 _ (lx.1 i hi)).1).1
    have ho : outS T g (lf g c) i = 0 ∨ outS T g (lf g c) i = 1 ∨ outS T g (lf g c) i = 2 ∨ outS T g (lf g c) i = 3 := ho
    rcases ho with z | z | z | z <;> rw [z] <;> decide
  · obtain ⟨t, l, τ, hQ⟩ := hA.qd
    refine ⟨-2, σ, ?_, hA, by decide⟩
    unfold M_X8_outcome
    rw [x_isCopy hA hc, bnd1_some, if_neg n10, x_isWrite hA hw, bnd1_some, if_pos n01, q_has hQ (by omega) (by omega), bnd1_some, if_neg h, if_neg z00]
theorem f_loop3293 {v8 v9 v10 v19 : Int32} {c : Nat} (hc : c < tN T) (hC1 : 0 < tC T) : ∀ (d o k un : Nat) (g : Gs) (σ : Wd), o + d = tN T → d < k → HD T g0 g un σ → un + d < 30 → gQ g 1 = 15 → (v19 < 0 ∨ ∃ w, w < gW g ∧ v19 = nI w) → ∃ un' g' σ', iter (fun s : Int32 × Int32 × Wd => M_L_law_L3293 q (nI (tN T)) v8 v9 v10 (nI c) 1 v19 s.1 s.2.1 s.2.2) k ((1 : Int32), nI o, σ) = some (1, σ') ∧ HD T g0 g' un' σ' := by
  intro d
  induction d with
  | zero =>
    intro o k un g σ ho hk h hun hQ hv
    obtain ⟨m, rfl⟩ : ∃ m, k = m + 1 := ⟨k - 1, by omega⟩
    obtain ⟨hs, sl, hl, hA, h1, h2, h3⟩ := id h
    have n5 := hA.n5
    refine ⟨un, g, σ, it_x ?_, h⟩
    show M_L_law_L3293 q (nI (tN T)) v8 v9 v10 (nI c) 1 v19 1 (nI o) σ = _
    unfold M_L_law_L3293
    rw [if_pos ((nI_leI (by omega) (by omega)).mpr (by omega))]
  | succ d ih =>
    intro o k un g σ ho hk h hun hQ hv
    obtain ⟨m, rfl⟩ : ∃ m, k = m + 1 := ⟨k - 1, by omega⟩
    obtain ⟨hs, sl, hl, hA, h1, h2, h3⟩ := id h
    have n5 := hA.n5
    have hoN : o < tN T := by omega
    have hm0 := x_may hA (s := 1) (by decide) false
    have hm1 := x_may hA (s := 1) (by decide) true
    have eA : rfA T g 1 o = (bhN g o (gU g 1) (tN T) || bhN g o (gE g 1) (tN T)) := by
      unfold rfA
      rw [hQ]
      simp
    have eM : rfM T g 1 o = (bhN g o (gU g 1) (tN T) || bhN g o (gE g 1) (tN T)) := by
      unfold rfM
      rw [hQ]
      simp [Bool.or_comm]
    have hb := f_behind (q := q) (v8 := v8) (v9 := v9) (v10 := v10) (v17 := nI c) (v18 := 1) (v19 := v19) (v21 := if (!rfA T g 1 o) = true then 1 else 0) hA hoN
    have b0 : ((mkN (fun c => !(if false = true then rfM T g 1 c else rfA T g 1 c)) (tN T) >>> (nI o &&& 31)) &&& (1 : Int32)) = if (!rfA T g 1 o) = true then 1 else 0 := mk_bit n5.2.1 hoN
    have b1 : ((mkN (fun c => !(if true = true then rfM T g 1 c else rfA T g 1 c)) (tN T) >>> (nI o &&& 31)) &&& (1 : Int32)) = if (!rfM T g 1 o) = true then 1 else 0 := mk_bit n5.2.1 hoN
    have e0 : M_L_law_L3293 q (nI (tN T)) v8 v9 v10 (nI c) 1 v19 1 (nI o) σ = M_L_law_J3378 q σ (nI (tN T)) v8 v9 v10 (nI c) 1 v19 (nI o) (if (!rfA T g 1 o) = true then 1 else 0) (boI (bhN g o (gU g 1) (tN T) || bhN g o (gE g 1) (tN T))) := by
      unfold M_L_law_L3293
      rw [if_neg (fun z => by have := (nI_leI (by omega) (by omega)).mp z; omega), if_neg n10, show M_X8_may σ 1 0 = _ from hm0, bnd1_some, b0, lt_eq, hb, bnd1_some]
      rfl
    have goS : ∀ {un' : Nat} {g' : Gs} {σ' : Wd}, M_L_law_J3378 q σ (nI (tN T)) v8 v9 v10 (nI c) 1 v19 (nI o) (if (!rfA T g 1 o) = true then 1 else 0) (boI (bhN g o (gU g 1) (tN T) || bhN g o (gE g 1) (tN T))) = some (.inl (1, nI (o + 1), σ')) → HD T g0 g' un' σ' → un' ≤ un + 1 → gQ g' 1 = 15 → gW g' = gW g → ∃ un' g' σ', iter (fun s : Int32 × Int32 × Wd => M_L_law_L3293 q (nI (tN T)) v8 v9 v10 (nI c) 1 v19 s.1 s.2.1 s.2.2) (m + 1) ((1 : Int32), nI o, σ) = some (1, σ') ∧ HD T g0 g' un' σ' := fun {un' g' σ'} hj hh hu hq hw => by
      obtain ⟨u2, g2, σ2, r1, r2⟩ := ih (o + 1) m un' g' σ' (by omega) (by omega) hh (by omega) hq (by rw [hw]; exact hv)
      exact ⟨u2, g2, σ2, (it_s (e0.trans hj)).trans r1, r2⟩
    rw [← eA] at goS
    have hcell := x_ask hA (s := 1) (c := o) (k := 0) (by omega) (by decide) hoN hC1
    rcases hcell with ⟨hr, σ', ea, hA'⟩ | ⟨hr, g', σ', hS, ea, hA'⟩
    · refine goS ?_ (HD.push hA' h1 h2 h3) (Nat.le_refl _) hQ rfl
      unfold M_L_law_J3378 M_L_law_J3394
      rw [hr, if_neg (fun z => z rfl), if_neg (show ¬ (if (!true) = true then (1 : Int32) else 0) ≠ 0 by decide), if_neg (show ¬ (1 : Int32) ≠ boI true by decide), show M_X8_may σ 1 1 = _ from hm1, bnd1_some, b1, eM, ← eA, hr, if_neg (fun z => z rfl)]
      rw [show M_X8_ask σ 1 (nI o) 0 = _ from ea, bnd2_some, if_neg (show ¬ (0 : Int32) ≠ (if (!true) = true then (1 : Int32) else 0) by decide), if_pos (show (if (!true) = true then (1 : Int32) else 0) = 0 by decide)]
      unfold M_L_law_J3462 M_L_law_J3467
      simp only [lt_eq, nI_1]
    · have hQ' : gQ g' 1 = 15 := (hS.1 12 1 0 (by decide) (by decide) (by decide)).trans hQ
      have hW' : gW g' = gW g := hS.1 0 0 0 (by decide) (by decide) (by decide)
      rcases hv with hv | ⟨w, hw, rfl⟩
      · refine goS (g' := g') (σ' := σ') ?_ (HD.push hA' h1 h2 h3) (Nat.le_refl _) hQ' hW'
        unfold M_L_law_J3378 M_L_law_J3394
        rw [hr, if_neg (fun z => z rfl), if_pos (show (if (!false) = true then (1 : Int32) else 0) ≠ 0 by decide), if_neg (show ¬ (0 : Int32) ≠ boI false by decide), show M_X8_may σ 1 1 = _ from hm1, bnd1_some, b1, eM, ← eA, hr, if_neg (fun z => z rfl)]
        rw [show M_X8_ask σ 1 (nI o) 0 = _ from ea, bnd2_some, if_neg (show ¬ (1 : Int32) ≠ (if (!false) = true then (1 : Int32) else 0) by decide), if_neg (show ¬ (if (!false) = true then (1 : Int32) else 0) = 0 by decide), if_pos hv]
        unfold M_L_law_J3462 M_L_law_J3467
        simp only [lt_eq, nI_1]
      · obtain ⟨rr, σ2, eo, hA2, hge⟩ := x_outAny hA' hoN (w := w) (by omega)
        refine goS (g' := g') (σ' := σ2) ?_ (HD.push hA2 h1 h2 h3) (Nat.le_refl _) hQ' hW'
        have hlk := lkN_le (g := g') (a := c) (b := o) (gW g')
        have hW6 := hA'.n5.2.2.2.2.1
        unfold M_L_law_J3378 M_L_law_J3394
        rw [hr, if_neg (fun z => z rfl), if_pos (show (if (!false) = true then (1 : Int32) else 0) ≠ 0 by decide), if_neg (show ¬ (0 : Int32) ≠ boI false by decide), show M_X8_may σ 1 1 = _ from hm1, bnd1_some, b1, eM, ← eA, hr, if_neg (fun z => z rfl)]
        rw [show M_X8_ask σ 1 (nI o) 0 = _ from ea, bnd2_some, if_neg (show ¬ (1 : Int32) ≠ (if (!false) = true then (1 : Int32) else 0) by decide), if_neg (show ¬ (if (!false) = true then (1 : Int32) else 0) = 0 by decide), if_neg (nI_n0 (by omega)), x_lacks hA' hc hoN, bnd1_some, if_neg (nI_n0 (by omega)), eo, bnd2_some, if_neg hge]
        unfold M_L_law_J3462 M_L_law_J3467
        simp only [lt_eq, nI_1]
end FN
