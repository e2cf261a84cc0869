/-! the law's end: forms, a year, soon -/
/-- what the law's cells beside the world are, of a text -/
def LQ (T : Td) (q : Lq) : Prop :=
  (lZ q 0 = nI (tN T)) ∧
  (lZ q 1 = nI (tC T)) ∧
  (lZ q 2 = nI (tF T)) ∧
  (tF T ≤ lM q) ∧
  (tC T ≤ 4) ∧
  (0 < tF T → 0 < tC T) ∧
  (∀ k, k < tC T → lF q k = tI T k) ∧
  (∀ f, f < tF T → tE T f ≠ 0 → ¬ lH q f 2 < 0)
theorem LQ.n {T : Td} {q : Lq} (h : LQ T q) : lZ q 0 = nI (tN T) := h.1
theorem LQ.c {T : Td} {q : Lq} (h : LQ T q) : lZ q 1 = nI (tC T) := h.2.1
theorem LQ.f {T : Td} {q : Lq} (h : LQ T q) : lZ q 2 = nI (tF T) := h.2.2.1
theorem LQ.fm {T : Td} {q : Lq} (h : LQ T q) : tF T ≤ lM q := h.2.2.2.1
theorem LQ.c4 {T : Td} {q : Lq} (h : LQ T q) : tC T ≤ 4 := h.2.2.2.2.1
theorem LQ.fc {T : Td} {q : Lq} (h : LQ T q) : 0 < tF T → 0 < tC T := h.2.2.2.2.2.1
theorem LQ.first {T : Td} {q : Lq} (h : LQ T q) : ∀ k, k < tC T → lF q k = tI T k := h.2.2.2.2.2.2.1
theorem LQ.els {T : Td} {q : Lq} (h : LQ T q) : ∀ f, f < tF T → tE T f ≠ 0 → ¬ lH q f 2 < 0 := h.2.2.2.2.2.2.2
section FN
variable {T : Td} {g0 g : Gs} {un : Nat} {σ : Wd} {q : Lq}
theorem ChN_W : ∀ (n : Nat) {g g' : Gs}, ChN T n g g' → gW g' = gW g
  | 0, _, _, h => by rw [show _ = _ from h]
  | n + 1, g, g', ⟨gm, h1, h2⟩ => by
    rw [← ChN_W n h1]
    by_cases q : 2 ≤ tN T
    · obtain ⟨a, b, _, _, _, _, _, h3, _⟩ := h2.2.2 q
      exact h3.1
    · rw [h2.2.1 (by omega)]
      rfl
theorem f_3264 (hL : LQ T q) (h : HD T g0 g un σ) (hun : un < 24) (hW : gW g < 60) (hQ : gQ g 1 = 15) (hF : 0 < tF T) {c : Nat} (hc : c < tN T) : ow (M_L_law_J3264 q σ 1 (nI (tN T)) (nI (gW g0)) (nI (gO g0)) (smN g0 0 (tN T)) (nI c) 1) Q1 := by
  obtain ⟨hs, sl, hl, hA, h1, h2, h3⟩ := id h
  have n5 := hA.n5
  obtain ⟨f, hf, ef⟩ := rem255 (x := lX q (ix (31 : Int32))) (m := tF T) (by omega) (by omega)
  unfold M_L_law_J3264
  rw [chk_pos (by decide), hL.f, chk_pos (show ¬ nI (tF T) = 0 from fun z => by have := (nI_eq (b := 0) (by omega) (by decide)).mp z; omega), ef]
  rcases x_make hA (v := 1) (x := 3) (by omega) hc hf (Or.inr ⟨1, by decide, rfl⟩) hW with ⟨s, hs4, es, er, σ', em, hA'⟩ | ⟨hv, gm, σ', hg, em, hA'⟩
  · obtain rfl : s = 1 := ((nI_eq (a := 1) (b := s) (by decide) (by omega)).mp es).symm
    rw [em, bnd2_some]
    obtain ⟨u2, g2, σ2, r1, r2⟩ := f_loop3293 (q := q) (v8 := nI (gW g0)) (v9 := nI (gO g0)) (v10 := smN g0 0 (tN T)) (v19 := -2) hc (hL.fc hF) (tN T) 0 FU (un + 1) _ σ' (by omega) (FU_big (by omega)) (HD.push hA' h1 h2 h3) (by omega) hQ (Or.inl (by decide))
    rw [show ((1 : Int32), (0 : Int32), σ') = ((1 : Int32), nI 0, σ') from rfl, r1, bnd1_some]
    exact f_3475 r2
  · have hgm : gQ (shG (ltG gm c) c) 1 = 15 ∧ gW (shG (ltG gm c) c) = gW g + 1 := by
      have e1 : gQ (ltG gm c) 1 = gQ gm 1 ∧ gW (ltG gm c) = gW gm := by
        unfold ltG
        by_cases qq : c = gP gm
        · rw [if_pos qq]
          exact ⟨(uG_o (by omega)).trans (oG_o (by decide) (by decide)), (uG_o (by omega)).trans (oG_o (by decide) (by decide))⟩
        · rw [if_neg qq]; exact ⟨rfl, rfl⟩
      have e2 : gQ gm 1 = gQ g 1 ∧ gW gm = gW g + 1 := by
        rcases hg with ⟨_, rfl⟩ | ⟨s, hs4, _, rfl⟩
        · exact ⟨aG_o (by decide) (Or.inr ⟨by decide, by decide, by decide⟩) (by decide), rfl⟩
        · exact ⟨(uG_o (by omega)).trans (aG_o (by decide) (Or.inr ⟨by decide, by decide, by decide⟩) (by decide)), (uG_o (by omega)).trans rfl⟩
      refine ⟨?_, ?_⟩
      · show gQ (ltG gm c) 1 = 15
        rw [e1.1, e2.1, hQ]
      · show gW (ltG gm c) = _
        rw [e1.2, e2.2]
    rw [em, bnd2_some]
    obtain ⟨u2, g2, σ2, r1, r2⟩ := f_loop3293 (q := q) (v8 := nI (gW g0)) (v9 := nI (gO g0)) (v10 := smN g0 0 (tN T)) (v19 := nI (gW g)) hc (hL.fc hF) (tN T) 0 FU (un + 1) _ σ' (by omega) (FU_big (by omega)) (HD.push hA' h1 h2 h3) (by omega) hgm.1 (Or.inr ⟨gW g, by rw [hgm.2]; omega, rfl⟩)
    rw [show ((1 : Int32), (0 : Int32), σ') = ((1 : Int32), nI 0, σ') from rfl, r1, bnd1_some]
    exact f_3475 r2
theorem f_3215 (hL : LQ T q) (h : HD T g0 g0 un σ) (hun : un < 20) (hW : gW g0 < 60) : ow (M_L_law_J3215 q σ (nI (tN T)) (nI (gW g0)) (nI (gO g0)) (smN g0 0 (tN T)) 1) Q1 := by
  obtain ⟨hs, sl, hl, hA, h1, h2, h3⟩ := id h
  have n5 := hA.n5
  unfold M_L_law_J3215
  rw [hL.f]
  by_cases hF : tF T = 0
  · rw [if_pos (by rw [hF]; decide)]
    exact f_3495 h
  · obtain ⟨c, hc, ec⟩ := rem255 (x := lX q (ix (30 : Int32))) (m := tN T) (by omega) (by omega)
    have ss := x_sess hA (s := 1) (by decide)
    rw [if_neg (fun z => by have := (nI_leI (b := 0) (by omega) (by decide)).mp z; omega), chk_pos (by decide), chk_pos (show ¬ nI (tN T) = 0 from fun z => by have := (nI_eq (b := 0) (by omega) (by decide)).mp z; omega), ec, lt_eq, show M_X8_session σ 1 0 = _ from ss.1, bnd1_some]
    rcases x_promise hA (s := 1) (v := 15) (by omega) (by decide) (by decide) with ⟨e, em⟩ | ⟨e, σ', em, hA'⟩
    · rw [if_pos (by rw [e]; rfl)]
      unfold M_L_law_J3259
      exact f_3264 hL h (by omega) hW e (by omega) hc
    · rw [if_neg (show ¬ nI (gQ g0 1) = 15 from fun z => e ((nI_eq (b := 15) (by have := ss.2.2.2; omega) (by decide)).mp z)), show M_X8_promise σ 1 15 = _ from em, bnd2_some, if_neg n10]
      unfold M_L_law_J3259
      exact f_3264 hL (HD.push hA' h1 h2 h3) (by omega) hW uG_s (by omega) hc
theorem f_3163 (hL : LQ T q) (h : HD T g0 g0 un σ) (hun : un < 20) (hW : gW g0 < 60) {v16 : Int32} (hv : v16 = 0 ↔ SetT T g0) : ow (M_L_law_J3163 q σ 1 (nI (tN T)) (nI (gW g0)) (nI (gO g0)) (smN g0 0 (tN T)) v16) Q1 := by
  obtain ⟨hs, sl, hl, hA, h1, h2, h3⟩ := id h
  have n5 := hA.n5
  obtain ⟨v, σ', hv7, ey, hA', hz⟩ := x_year hA (n := 0) (s := 7) (by omega) (by decide) (by decide)
  have hz := hz rfl
  obtain ⟨w, σ2, hw5, ew, hA2, _⟩ := x_year hA' (n := 9) (s := 5) (by omega) (by decide) (by decide)
  obtain ⟨w', σ3, hw5', ew', hA3, _⟩ := x_year hA2 (n := 9) (s := 5) (by omega) (by decide) (by decide)
  have key : ∀ t0, t0 = nI v → ow (M_L_law_J3186 q σ' (nI (tN T)) (nI (gW g0)) (nI (gO g0)) (smN g0 0 (tN T)) t0 (nI v)) Q1 := fun t0 ht => by
    unfold M_L_law_J3186
    rw [ht, if_neg (fun z => z rfl), show M_X8_year σ' 9 5 = _ from ew, bnd2_some, if_neg (nI_n0 (by omega)), show M_X8_year σ2 9 5 = _ from ew', bnd2_some, if_neg (show ¬ (5 : Int32) < nI w' from fun z => by have := (nI_ltI (a := 5) (by decide) (by omega)).mp z; omega)]
    exact f_3215 hL ⟨_, _, _, hA3, h1, h2, h3⟩ hun hW
  unfold M_L_law_J3163
  rw [if_neg n10, show M_X8_year σ 0 7 = _ from ey, bnd2_some]
  by_cases hs : v16 = 0
  · rw [if_neg (fun z => z hs)]
    exact key 7 (by rw [hz.1 (hv.mp hs)]; rfl)
  · rw [if_pos hs]
    exact key 0 (by rw [hz.2 (fun z => hs (hv.mpr z))]; rfl)
/-- settled, by the class's own counts -/
theorem set_iff {hs sl : Nat → Gs} {hl : Nat → Nat} (hA : At T g un hs sl hl σ) : SetT T g ↔ allB g (tN T) = true ∧ gO g = gW g := by
  unfold SetT
  rw [allB_iff]
  exact and_congr Iff.rfl Iff.rfl
theorem f_3025 (hL : LQ T q) (h : HD T g0 g0 un σ) (hun : un < 20) (hW : gW g0 < 60) (hC : gC g0 < 1000) : ow (M_L_law_J3025 q σ (nI (tN T)) (nI (gW g0)) (nI (gO g0)) (smN g0 0 (tN T)) 1) Q1 := by
  obtain ⟨hs, sl, hl, hA, h1, h2, h3⟩ := id h
  have n5 := hA.n5
  obtain ⟨v, σ', es, hA', hv⟩ := x_soon hA (by omega)
  have hO := n5.2.2.2.2.2.1
  have h' : HD T g0 g0 un σ' := ⟨_, _, _, hA', h1, h2, h3⟩
  have hv0 : v = 0 ↔ SetT T g0 := by
    rcases hv with ⟨r, g', hr, rfl, hc, hs', hno⟩ | ⟨rfl, hs'⟩
    · constructor
      · intro z
        obtain rfl : r = 0 := (nI_eq (b := 0) (by omega) (by decide)).mp z
        rwa [show g' = g0 from hc] at hs'
      · intro z
        by_cases hr0 : r = 0
        · rw [hr0]; rfl
        · obtain ⟨g2, q1, q2⟩ := hno 0 (by omega)
          rw [show g2 = g0 from q1] at q2
          exact absurd z q2
    · exact ⟨fun z => absurd z (by decide), fun z => absurd z hs'⟩
  have e10 := x_count10 hA'
  -- the rest, once it is said that soon = 0 just where all is settled
  have rest : ow (M_L_law_J3078 q σ' (nI (tN T)) (nI (gW g0)) (nI (gO g0)) (smN g0 0 (tN T)) v 1) Q1 := by
    unfold M_L_law_J3078
    rcases hv with ⟨r, g', hr, rfl, hc, hs', hno⟩ | ⟨rfl, hs'⟩
    · by_cases hr0 : r = 0
      · subst hr0
        rw [if_pos (by decide)]
        exact f_3163 hL h' hun hW hv0
      · obtain ⟨p, rfl⟩ : ∃ p, r = p + 1 := ⟨r - 1, by omega⟩
        rw [if_neg (fun z => by have := (nI_leI (b := 0) (by omega) (by decide)).mp z; omega), if_neg n10, show nI (p + 1) - (1 : Int32) = nI p by rw [nI_pred1 (by omega)]; rfl]
        -- after p meetings it is not settled, after one more it is
        have step : ∀ (gp : Gs) (σp : Wd) (up : Nat), ChN T p g0 gp → HD T g0 gp up σp → up < 24 → M_X8_chance σ' (nI p) = some (nI (gC g0 + p), σp) → ow (bnd2 (M_X8_chance σ' (nI p)) fun r3095 s_3095 => if r3095 < 0 then (M_L_law_J3160 q s_3095 (nI (tN T)) (nI (gW g0)) (nI (gO g0)) (smN g0 0 (tN T)) (nI (p + 1))) else (bnd2 (M_X8_count s_3095 (10 : Int32)) fun r3104 s_3104 => if r3104 = 0 then (M_L_law_J3120 q s_3104 (nI (tN T)) (nI (gW g0)) (nI (gO g0)) (smN g0 0 (tN T)) (nI (p + 1))) else (bnd2 (M_X8_count s_3104 (4 : Int32)) fun r3112 s_3112 => if (nI (gW g0)) ≤ r3112 then (M_L_law_J3160 q s_3112 (nI (tN T)) (nI (gW g0)) (nI (gO g0)) (smN g0 0 (tN T)) (nI (p + 1))) else (M_L_law_J3120 q s_3112 (nI (tN T)) (nI (gW g0)) (nI (gO g0)) (smN g0 0 (tN T)) (nI (p + 1)))))) Q1 := fun gp σp up hcp hp hup ech => by
          obtain ⟨hsp, slp, hlp, hAp, hp1, hp2, hp3⟩ := id hp
          have n5p := hAp.n5
          have hWp : gW gp = gW g0 := ChN_W p hcp
          have hCb : gC g0 + p < 2 ^ 30 := by omega
          obtain ⟨g2, q1, q2⟩ := hno p (by omega)
          have hns : ¬ SetT T gp := fun z => q2 ((SetT_CE (ChN_u n5.2.1 p CE.refl hcp q1)).mpr z)
          have end1 : ow (M_L_law_J3120 q σp (nI (tN T)) (nI (gW g0)) (nI (gO g0)) (smN g0 0 (tN T)) (nI (p + 1))) Q1 := by
            rcases x_chance hAp (n := 1) (by omega) (by decide) with ⟨z, _⟩ | ⟨_, gf, σf, hcf, ef, hAf⟩
            · exact absurd z (by decide)
            · have hf : HD T g0 gf (up + 1) σf := HD.push hAf hp1 hp2 hp3
              obtain ⟨gm, hm0, hm1⟩ := hcf
              have hcp1 : ChN T (p + 1) g0 gf := ⟨gp, hcp, by rwa [show gm = gp from hm0] at hm1⟩
              have hsf : SetT T gf := (SetT_CE (ChN_u n5.2.1 (p + 1) CE.refl hc hcp1)).mpr hs'
              obtain ⟨s1, s2⟩ := (set_iff hAf).mp hsf
              obtain ⟨σr, er, hr'⟩ := hf.restore
              have hWf : gW gf = gW g0 := ChN_W (p + 1) hcp1
              have hCp := ChN_C p hcp
              unfold M_L_law_J3120 M_L_law_J3161
              rw [show M_X8_chance σp 1 = _ from ef, bnd2_some, if_neg (show ¬ nI (gC gp + 1) ≤ 0 from fun z => by have := (nI_leI (b := 0) (by omega) (by decide)).mp z; omega), x_count10 hAf, bnd2_some, s1, if_neg (fun z => z rfl), x_count4 hAf, bnd2_some, s2, hWf, if_neg (fun z => z rfl), er, bnd2_some, if_neg n10]
              exact f_3163 hL hr' (by omega) hW hv0
          rw [ech, bnd2_some, if_neg (nI_n0 (by omega)), x_count10 hAp, bnd2_some]
          cases hall : allB gp (tN T)
          · rw [if_pos (show boI false = 0 from rfl)]
            exact end1
          · have hlt : gO gp < gW gp := by
              have := n5p.2.2.2.2.2.1
              rcases Nat.lt_or_ge (gO gp) (gW gp) with z | z
              · exact z
              · exact absurd ((set_iff hAp).mpr ⟨hall, by omega⟩) hns
            rw [if_neg (show ¬ boI true = 0 from n10), x_count4 hAp, bnd2_some, if_neg (fun z => by have := (nI_leI (by omega) (by omega)).mp z; omega)]
            exact end1
        rcases x_chance hA' (n := p) (by omega) (by omega) with ⟨rfl, ech⟩ | ⟨_, gp, σp, hcp, ech, hAp⟩
        · exact step g0 σ' un rfl h' (by omega) ech
        · exact step gp σp (un + 1) hcp (HD.push hAp h1 h2 h3) (by omega) ech
    · rw [if_pos (by decide)]
      exact f_3163 hL h' hun hW hv0
  have all : ∀ t0, t0 = (if v = 0 then (1 : Int32) else 0) → ow (M_L_law_J3048 q σ' (nI (tN T)) (nI (gW g0)) (nI (gO g0)) (smN g0 0 (tN T)) v t0) Q1 := fun t0 ht => by
    unfold M_L_law_J3048
    rw [e10, bnd2_some]
    have j70 : ∀ t1, t1 = (if v = 0 then (1 : Int32) else 0) → ow (M_L_law_J3070 q σ' (nI (tN T)) (nI (gW g0)) (nI (gO g0)) (smN g0 0 (tN T)) v t1 t0) Q1 := fun t1 ht1 => by
      unfold M_L_law_J3070
      rw [ht, ht1, if_neg (fun z => z rfl)]
      exact rest
    cases hall : allB g0 (tN T)
    · rw [if_pos (show boI false ≠ 1 by decide)]
      unfold M_L_law_J3069
      refine j70 0 ?_
      rw [if_neg (fun z => by have := ((set_iff hA').mp (hv0.mp z)).1; rw [hall] at this; exact absurd this (by decide))]
    · rw [if_neg (fun z => z rfl)]
      by_cases hOW : gO g0 = gW g0
      · rw [hOW, if_neg (fun z => z rfl), ← hOW]
        have := j70 1 (by rw [if_pos (hv0.mpr ((set_iff hA').mpr ⟨hall, hOW⟩))])
        rwa [hOW] at this ⊢
      · rw [if_pos (fun z => hOW ((nI_eq (by omega) (by omega)).mp z))]
        unfold M_L_law_J3069
        refine j70 0 ?_
        rw [if_neg (fun z => hOW ((set_iff hA').mp (hv0.mp z)).2)]
  unfold M_L_law_J3025
  rw [es, bnd2_some, if_neg n10]
  by_cases hz : v = 0
  · rw [if_neg (fun z => z hz)]
    exact all 1 (if_pos hz).symm
  · rw [if_pos hz]
    exact all 0 (if_neg hz).symm
end FN
