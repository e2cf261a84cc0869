/-! soon, a year, plans -/
section XC
variable {T : Td} {g : Gs} {un : Nat} {hs sl : Nat → Gs} {hl : Nat → Nat} {σ : Wd}
theorem At.rel (h : At T g un hs sl hl σ) : ∃ τ, Rel σ τ := by
  obtain ⟨τ, t, l, tp, nx, h⟩ := h
  exact ⟨τ, Rel_iff.mpr ⟨T, t, l, tp, un, nx, g, hs, sl, hl, h⟩⟩
theorem sea_stepX {t l : Nat} {g0 g : Gs} {σ1 τ0 σ τ σs : Wd} (h : Mid T g0 σ1 τ0 g σ τ) (hT : RText T t l σ1 τ0) (hS : gI τ0 0 43 = nI (tS T)) (hs : Sea T g σs) : ∃ g' σ' τ' σs', M_X5_letMeet σs (nI (tS T)) (nI (gC g)) = some σs' ∧ Mid T g0 σ1 τ0 g' σ' τ' ∧ Sea T g' σs' ∧ KC σs σs' ∧ ChS T g g' := by
  have hn := hT.2.2.2.2.2.1.2.1
  have hn1 := hT.2.2.2.2.2.1.1
  have hI := h.2.2.2.2.2.2.1
  obtain ⟨g', σ', τ', c1, c2, c3, c4, c5, c6⟩ := h.chanceX hT hS
  by_cases h2 : 2 ≤ tN T
  · obtain ⟨a, b, ha, hb, hab, w1, w2, w3, _⟩ := c5 h2
    obtain ⟨σs', e1, e2, e3⟩ := c_letMeet hs.tick (show Inv (tN T) (tF T) (uG g 3 0 0 (gC g + 1)) from hI) hn h2 ha hb hab w1 w2 w3
    exact ⟨g', σ', τ', σs', e1, c2, e3, e2, c3, c4, c5⟩
  · refine ⟨g', σ', τ', σs, ?_, c2, ?_, KC.refl, c3, c4, c5⟩
    · unfold M_X5_letMeet
      rw [hs.1, if_neg (fun z : (2 : Int32) ≤ _ => by have := (nI_leI (a := 2) (by decide) (by omega)).mp z; omega)]
    · rw [c4 (by omega)]
      exact hs.tick
/-- how soon all is settled -/
theorem x_soon (h : At T g un hs sl hl σ) (hun : un < 40) : ∃ v σ', M_X8_soon σ = some (v, σ') ∧ At T g un hs sl hl σ' ∧ ((∃ r g', r ≤ 60 ∧ v = nI r ∧ ChN T r g g' ∧ SetT T g' ∧ ∀ i, i < r → ∃ g2, ChN T i g g2 ∧ ¬ SetT T g2) ∨ (v = -2 ∧ ¬ SetT T g)) := by
  have n5 := h.n5
  obtain ⟨t, l, τ0, hQ, σ1, τ1, hk, hT1, hm, hend, hS⟩ := h.layS hun
  obtain ⟨σa, a1, a2, a3⟩ := c_season hQ
  have run : ∀ (d i : Nat) (g2 : Gs) (σg σs τ2 : Wd) (k : Nat), i + d = 61 → d < k → Mid T g σ1 τ1 g2 σg τ2 → Sea T g2 σs → KC σ σs → ChN T i g g2 → (∀ j, j < i → ∃ g2, ChN T j g g2 ∧ ¬ SetT T g2) → ∃ x v σ', iter (fun s : Int32 × Wd => M_X8_soon_L13 s.1 s.2) k (nI i, σs) = some x ∧ sx (un1 fun sx_13 => (some ((-2 : Int32), sx_13))) (fun q => some q) x = some (v, σ') ∧ KC σ σ' ∧ ((∃ r g', r ≤ 60 ∧ v = nI r ∧ ChN T r g g' ∧ SetT T g' ∧ ∀ i, i < r → ∃ g2, ChN T i g g2 ∧ ¬ SetT T g2) ∨ (v = -2 ∧ ¬ SetT T g)) := by
    intro d
    induction d with
    | zero =>
      intro i g2 σg σs τ2 k hi hk hm hs hkc hc hno
      obtain ⟨m, rfl⟩ : ∃ m, k = m + 1 := ⟨k - 1, by omega⟩
      have hlt : (60 : Int32) < nI i := (nI_ltI (a := 60) (by decide) (by omega)).mpr (by omega)
      refine ⟨.inl σs, -2, σs, it_x ?_, rfl, hkc, Or.inr ⟨rfl, ?_⟩⟩
      · show M_X8_soon_L13 (nI i) σs = _
        unfold M_X8_soon_L13
        rw [if_pos hlt]
      · obtain ⟨g2, q1, q2⟩ := hno 0 (by omega)
        rwa [show g2 = g from q1] at q2
    | succ d ih =>
      intro i g2 σg σs τ2 k hi hk hm hs hkc hc hno
      obtain ⟨m, rfl⟩ : ∃ m, k = m + 1 := ⟨k - 1, by omega⟩
      have hlt : ¬ (60 : Int32) < nI i := fun z => by have := (nI_ltI (a := 60) (by decide) (by omega)).mp z; omega
      have hQ2 := hm.qd hT1
      obtain ⟨r, r0, rs, r1⟩ := c_settled hs hQ2.2.2.2.2.1 n5.2.1 n5.1
      have hQs := hQ.kc hkc
      obtain ⟨ht, h4, hl, h18, hTI, hTC, hTM⟩ := gR_mid hQs.1
      rcases r0 with rfl | rfl
      · obtain ⟨g3, σg3, τ3, σs3, c2, c3, c4, c5, c6⟩ := sea_stepX hm hT1 hS hs
        have hns : ¬ SetT T g2 := fun z => absurd (rs.mpr z) (by decide)
        obtain ⟨x, v, σ', e1, e3, e5, e6⟩ := ih (i + 1) g3 σg3 σs3 τ3 m (by omega) (by omega) c3 c4 (hkc.trans c5) ⟨g2, hc, c6⟩ (fun j hj => by
          by_cases e : j = i
          · subst e; exact ⟨g2, hc, hns⟩
          · exact hno j (by omega))
        refine ⟨x, v, σ', (it_s ?_).trans e1, e3, e5, e6⟩
        have hg := ChN_C i hc
        show M_X8_soon_L13 (nI i) σs = _
        unfold M_X8_soon_L13
        rw [if_neg hlt, r1, bnd1_some, if_pos rfl, h4, chk_pos ht, hTC.1.2.2.1, show M_X1_chances σs = some (nI (gC g)) from c_chances hQs.2.1.1.2.2.2.2.1, bnd1_some, nI_add, ← hg, c2, bnd1_some, nI_1]
        rfl
      · refine ⟨.inr (nI i, σs), nI i, σs, it_x ?_, rfl, hkc, Or.inl ⟨i, g2, by omega, rfl, hc, rs.mp rfl, hno⟩⟩
        show M_X8_soon_L13 (nI i) σs = _
        unfold M_X8_soon_L13
        rw [if_neg hlt, r1, bnd1_some, if_neg n10]
  obtain ⟨x, v, σ', e1, e3, e5, e6⟩ := run 61 0 g σ1 σa τ1 FU (by omega) (FU_big (by omega)) hm a3 a2 rfl (fun j hj => absurd hj (by omega))
  refine ⟨v, σ', ?_, h.kc e5, e6⟩
  unfold M_X8_soon
  rw [a1, bnd1_some, show ((0 : Int32), σa) = (nI 0, σa) from rfl, e1, bnd1_some]
  exact e3
theorem x_year (h : At T g un hs sl hl σ) {n s : Nat} (hn : n ≤ 60) (hs1 : 1 ≤ s) (hs20 : s ≤ 20) : ∃ v σ', v ≤ s ∧ M_X8_year σ (nI n) (nI s) = some (nI v, σ') ∧ At T g un hs sl hl σ' ∧ (n = 0 → (SetT T g → v = s) ∧ (¬ SetT T g → v = 0)) := by
  have n5 := h.n5
  obtain ⟨τ, hR0⟩ := h.rel
  obtain ⟨T0, t0, _, _, _, _, _, f0, g0, i0, l0, _⟩ := yr_one hR0 (n := 0) (k := 0) (by omega) 0 0 0 0 0
  have run : ∀ (d k v : Nat) (σ2 : Wd) (q : Nat), k + d = s → d < q → KC σ σ2 → v ≤ k → (n = 0 → (SetT T g → v = k) ∧ (¬ SetT T g → v = 0)) → ∃ v' σ', iter (fun x : Int32 × Int32 × Wd => M_X8_year_L34 (nI n) (nI s) x.1 x.2.1 x.2.2) q (nI v, nI (tS T0 + k), σ2) = some (nI v', σ') ∧ KC σ σ' ∧ v' ≤ s ∧ (n = 0 → (SetT T g → v' = s) ∧ (¬ SetT T g → v' = 0)) := by
    intro d
    induction d with
    | zero =>
      intro k v σ2 q hk hq hkc hv hz
      obtain ⟨m, rfl⟩ : ∃ m, q = m + 1 := ⟨q - 1, by omega⟩
      have p0 : ∀ c, c < 35 → pC c := fun c hc => ⟨by omega, by omega, by omega⟩
      have e4 : gR σ2 0 4 = t0 := (congrFun (hkc 0 (p0 _ (by decide))).2.2 4).trans g0
      have e2 : gI σ2 t0 2 = nI (tS T0) := (congrFun (hkc t0 (p0 _ (by rcases f0 with e | e <;> omega))).1 2).trans i0
      obtain rfl : k = s := by omega
      refine ⟨v, σ2, it_x ?_, hkc, hv, hz⟩
      show M_X8_year_L34 (nI n) (nI k) (nI v) (nI (tS T0 + k)) σ2 = _
      unfold M_X8_year_L34
      rw [e4, chk_pos f0, e2, nI_add, if_pos ((nI_leI (by omega) (by omega)).mpr (by omega))]
    | succ d ih =>
      intro k v σ2 q hk hq hkc hv hz
      obtain ⟨m, rfl⟩ : ∃ m, q = m + 1 := ⟨q - 1, by omega⟩
      have p0 : ∀ c, c < 35 → pC c := fun c hc => ⟨by omega, by omega, by omega⟩
      have e4 : gR σ2 0 4 = t0 := (congrFun (hkc 0 (p0 _ (by decide))).2.2 4).trans g0
      have e2 : gI σ2 t0 2 = nI (tS T0) := (congrFun (hkc t0 (p0 _ (by rcases f0 with e | e <;> omega))).1 2).trans i0
      have h2 := h.kc hkc
      obtain ⟨τ2, hR⟩ := h2.rel
      obtain ⟨T', t, r, σa, σ3, τa, τ3, f1, f2, f3, f4, f5, f6, f7, f8, f9, f10, f11, f12, f13⟩ := yr_one hR (n := n) (k := k) hn (nI s) (nI v) (nI s) (nI v) (nI k)
      obtain rfl : t = t0 := f2.symm.trans e4
      have eS : tS T' = tS T0 := (nI_eq (by omega) (by omega)).mp (f3.symm.trans e2)
      rw [eS] at f6
      have hr0 : n = 0 → (r = 1 ↔ SetT T g) := fun hn0 => by
        subst hn0
        obtain ⟨t', l', τ', hQ'⟩ := h2.qd
        obtain ⟨σb, b1, b2, b3⟩ := c_season hQ'
        obtain rfl : σb = σa := Option.some.inj (b1.symm.trans f5)
        obtain ⟨mm, hmm⟩ : ∃ m, FU = m + 1 := ⟨999999, by unfold FU; omega⟩
        have e : M_X8_year_L62 (nI 0) (nI s) (nI v) (nI (tS T0 + k)) 0 σb = some (.inr σb) := by
          unfold M_X8_year_L62
          rw [if_pos (show nI 0 ≤ 0 by decide)]
        rw [hmm, it_x (x := σb) (by exact e)] at f6
        obtain rfl := Option.some.inj f6
        obtain ⟨r', q0, q1, q2⟩ := c_settled b3 hQ'.2.2.2.2.1 n5.2.1 n5.1
        rw [show r = r' from Option.some.inj (f7.symm.trans q2)]
        exact q1
      obtain ⟨v', σ', z1, z2, z3, z4⟩ := ih (k + 1) (if r = 0 then v else v + 1) σ3 m (by omega) (by omega) (hkc.trans f12) (by split <;> omega) (fun hn0 => by
        have hr := hr0 hn0
        obtain ⟨w1, w2⟩ := hz hn0
        refine ⟨fun q => ?_, fun q => ?_⟩
        · rw [hr.mpr q, if_neg n10, w1 q]
        · rcases f11 with e | e
          · rw [e, if_pos rfl]; exact w2 q
          · exact absurd (hr.mp e) q)
      refine ⟨v', σ', (it_s ?_).trans z1, z2, z3, z4⟩
      show M_X8_year_L34 (nI n) (nI s) (nI v) (nI (tS T0 + k)) σ2 = _
      unfold M_X8_year_L34
      rw [e4, chk_pos f0, e2, nI_add, if_neg (fun z => by have := (nI_leI (by omega) (by omega)).mp z; omega), f5, bnd1_some, f6, bnd1_some]
      show bnd1 (M_X5_isSettled σ3) _ = _
      rw [f7, bnd1_some, nI_1]
      by_cases hr : r = 0
      · rw [if_pos hr, if_pos hr]; rfl
      · rw [if_neg hr, if_neg hr]
        simp only [lt_eq, nI_1]
        rfl
  obtain ⟨v', σ', z1, z2, z3, z4⟩ := run s 0 0 σ FU (by omega) (FU_big (by omega)) KC.refl (Nat.le_refl _) (fun _ => ⟨fun _ => rfl, fun _ => rfl⟩)
  refine ⟨v', σ', z3, ?_, h.kc z2, z4⟩
  unfold M_X8_year
  rw [if_neg (nI_n0 (by omega)), if_neg (show ¬ (60 : Int32) < nI n from fun z => by have := (nI_ltI (a := 60) (by decide) (by omega)).mp z; omega), if_neg (show ¬ nI s < 1 from fun z => by have := (nI_ltI (b := 1) (by omega) (by decide)).mp z; omega), if_pos (show nI s ≤ 20 from (nI_leI (b := 20) (by omega) (by decide)).mpr (by omega)), g0, chk_pos f0, i0]
  simp only [lt_eq]
  rw [show ((0 : Int32), nI (tS T0), σ) = (nI 0, nI (tS T0 + 0), σ) from rfl, z1, bnd1_some]
  rfl
/-- the plan: who brings, who takes -/
def tkP (g : Gs) (m c : Nat) : Bool := !(decide (c = gP g) || fuB g (if m = 0 then gO g else gW g) c)
theorem x_plan (h : At T g un hs sl hl σ) : ∃ m mm, Lst (brB g (tN T)) (2 ^ tN T) m ∧ m < 32 ∧ m.testBit (gP g) = false ∧ mm < 32 ∧ mkN (tkP g m) (tN T) = nI mm ∧ M_X8_plan σ 0 = some (nI (b5 m + b5 mm)) ∧ M_X8_plan σ 1 = some (nI m) ∧ M_X8_plan σ 2 = some (nI mm) := by
  have n5 := h.n5
  obtain ⟨t, l, τ, hQ⟩ := h.qd
  obtain ⟨m, m1, m2⟩ := c_givers hQ
  have h32 : 2 ^ tN T ≤ 32 := (two5 ⟨tN T, by omega⟩).2.2.1
  have hm : m < 32 := Nat.lt_of_lt_of_le m1.1 h32
  have hoff := lst_off n5.2.1 (by omega) m1 h32
  have ck := c_takers hQ hm
  obtain ⟨mm, _, mm2, mm3⟩ := mk_nat (p := tkP g m) (tN T) n5.2.1
  have ck : M_X1_planTakers σ (nI m) = some (nI mm) := ck.trans (congrArg some mm3)
  have e : ∀ k, k ≤ 2 → M_X8_plan σ (nI k) = if nI k ≠ 0 then (if nI k ≠ 1 then some (nI mm) else some (nI m)) else some (nI (b5 m + b5 mm)) := fun k hk => by
    unfold M_X8_plan
    rw [if_neg (nI_n0 (by omega)), if_pos (show nI k ≤ 2 from (nI_leI (b := 2) (by omega) (by decide)).mpr (by omega)), m2, bnd1_some, ck, bnd1_some, c_b5 hm, bnd1_some, c_b5 mm2, bnd1_some, nI_add]
  refine ⟨m, mm, m1, hm, hoff, mm2, mm3, ?_, ?_, ?_⟩
  · rw [show (0 : Int32) = nI 0 from rfl, e 0 (by decide), if_neg (show ¬ nI 0 ≠ 0 by decide)]
  · rw [show (1 : Int32) = nI 1 from rfl, e 1 (by decide), if_pos (show nI 1 ≠ 0 by decide), if_neg (show ¬ nI 1 ≠ 1 by decide)]
  · rw [show (2 : Int32) = nI 2 from rfl, e 2 (by decide), if_pos (show nI 2 ≠ 0 by decide), if_pos (show nI 2 ≠ 1 by decide)]
end XC
