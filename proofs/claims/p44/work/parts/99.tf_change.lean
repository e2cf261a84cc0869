/-! more changes -/
section XC
variable {T : Td} {g : Gs} {un : Nat} {hs sl : Nat → Gs} {hl : Nat → Nat} {σ : Wd}
theorem x_two (h : At T g un hs sl hl σ) {a b : Nat} (ha : a < 2 ^ 20) (hb : b < 2 ^ 20) : M_X8_areTwoCopies σ (nI a) (nI b) = some (boI (decide (a < tN T) && (decide (b < tN T) && !decide (a = b)))) := by
  have n5 := h.n5
  unfold M_X8_areTwoCopies
  by_cases h1 : a < tN T
  · by_cases h2 : b < tN T
    · rw [are_t (x_isCopy h h1) (x_isCopy h h2), bnd1_some, if_neg n10]
      by_cases h3 : a = b
      · rw [if_pos (by rw [h3])]; simp [h1, h2, h3, boI]
      · rw [if_neg (fun z => h3 ((nI_eq (by omega) (by omega)).mp z))]; simp [h1, h2, h3, boI]
    · rw [are_g (x_isCopy h h1) (x_noCopy h (by omega) (by omega)), bnd1_some, if_pos rfl]; simp [h2, boI]
  · rw [are_f (x_noCopy h (by omega) (by omega)), bnd1_some, if_pos rfl]; simp [h1, boI]
/-- a meeting, and what it would roll back -/
theorem x_meet (h : At T g un hs sl hl σ) (hun : un < 40) {a b : Nat} (ha : a < tN T) (hb : b < tN T) (hab : a ≠ b) : ∃ s g' σ' σw, AlS (lf g b) (lgf g (unP g a b) (max (gK g b) (gK g a))) (ln g b) (lgn g (unP g a b) (max (gK g b) (gK g a))) s ∧ MeetS g a b g' ∧ MtX g a b s g' ∧ M_X8_meet σ (nI a) (nI b) = some (nI (ln g b) - nI s, σ') ∧ At T g' (un + 1) (pushH hs un g) sl hl σ' ∧ M_X8_would σ (nI a) (nI b) = some (nI (ln g b) - nI s, σw) ∧ At T g un hs sl hl σw := by
  have n5 := h.n5
  obtain ⟨t, l, τ0, hQ, σ1, τ1, hk, hT1, hm, hend⟩ := h.lay hun
  obtain ⟨s, g', σ', τ', b1, b2, b3, b4, b5, b6⟩ := hm.meetX hT1 ha hb hab
  obtain ⟨s', F, F', a1, a2⟩ := c_would (a := a) (b := b) hQ (by omega) (by omega)
  obtain rfl := AlS_u a1 b1
  have e2 : M_X8_areTwoCopies σ (nI a) (nI b) = some 1 := by rw [x_two h (by omega) (by omega)]; simp [ha, hb, hab, boI]
  refine ⟨s', g', σ', _, b1, b5, b6, ?_, hend _ _ _ b4, ?_, h.kc (KC.wI (c := 36) (f := F') (fun z => z.2.2 rfl) (KC.wI (c := 35) (f := F) (fun z => z.2.1 rfl) KC.refl))⟩
  · unfold M_X8_meet
    rw [e2, bnd1_some, if_pos n01, hk, bnd1_some, b2, bnd2_some]
  · unfold M_X8_would
    rw [e2, bnd1_some, if_neg n10, a2, bnd2_some]
theorem x_meetNo (h : At T g un hs sl hl σ) {a b : Nat} (ha : a < 2 ^ 20) (hb : b < 2 ^ 20) (hno : ¬ (a < tN T ∧ b < tN T ∧ a ≠ b)) : M_X8_meet σ (nI a) (nI b) = some (-1, σ) ∧ M_X8_would σ (nI a) (nI b) = some (-1, σ) := by
  have e2 : M_X8_areTwoCopies σ (nI a) (nI b) = some 0 := by
    rw [x_two h ha hb]
    have : (decide (a < tN T) && (decide (b < tN T) && !decide (a = b))) = false := by
      cases hq : (decide (a < tN T) && (decide (b < tN T) && !decide (a = b))) with
      | false => rfl
      | true =>
        simp only [Bool.and_eq_true, decide_eq_true_eq, Bool.not_eq_true', decide_eq_false_iff_not] at hq
        exact absurd hq hno
    rw [this]
    rfl
  refine ⟨?_, ?_⟩
  · unfold M_X8_meet
    rw [e2, bnd1_some, if_neg z00]
  · unfold M_X8_would
    rw [e2, bnd1_some, if_pos rfl]
/-- another primary -/
theorem x_lead (h : At T g un hs sl hl σ) (hun : un < 40) {a : Nat} (ha : a < 2 ^ 20) : M_X8_lead σ (nI a) = some (0, σ) ∨ (a < tN T ∧ a ≠ gP g ∧ gK g a = gO g ∧ ∃ σ', M_X8_lead σ (nI a) = some (1, σ') ∧ At T (shG (uG (opG g a) 2 0 0 a) a) (un + 1) (pushH hs un g) sl hl σ') := by
  have n5 := h.n5
  obtain ⟨t, l, τ0, hQ, σ1, τ1, hk, hT1, hm, hend⟩ := h.lay hun
  have hI := h.inv
  by_cases hc5 : a < tN T
  · have eP : M_X1_primary σ = some (nI (gP g)) := c_primary hQ.2.1.1.2.1
    have ekK : M_X1_knownOf σ (nI a) = some (nI (gK g a)) := (q_known hQ (by omega)).1
    have eO : M_X1_ordered σ = some (nI (gO g)) := q_ordered hQ
    have hKc : gK g a ≤ gO g := hI.2.2.1 a (by omega)
    by_cases hcP : a = gP g
    · left
      unfold M_X8_lead
      rw [x_isCopy h hc5, bnd1_some, if_neg n10, eP, bnd1_some, if_pos (by rw [hcP])]
    · have e1 : ¬ nI a = nI (gP g) := fun z => hcP ((nI_eq (by omega) (by omega)).mp z)
      by_cases hq : gO g ≤ gK g a
      · right
        refine ⟨hc5, hcP, by omega, ?_⟩
        obtain ⟨g2, σ2, τ2, eg2, p1, p2, m2, f1, f2⟩ := hm.opensX hc5
        have hm3 : Mid T g σ1 τ1 (uG g2 2 0 0 a) (uL σ2 29 1 (lN a)) (uI τ2 26 2 (nI a)) := by
          have hI2 := m2.2.2.2.2.2.2.1
          refine m2.up ?_ ?_ ?_ ?_ ?_ rfl rfl (fun q => q)
          · refine ⟨by omega, fun _ => rfl, by omega, by omega, by omega, by omega, by intro k hk e; omega, fun c' hc' => ⟨by omega, by omega, by omega, by omega, by omega, by omega⟩, fun s' hs' => ⟨by omega, by omega, by omega, fun o ho => ⟨by omega, by omega⟩⟩⟩
          · intro j x hj q
            obtain ⟨q1, q2, q3⟩ := q
            exact ⟨q1, fun e => absurd e hj, q3⟩
          · refine ⟨by omega, by omega, fun _ => rfl, by omega, by omega, by intro k hk e; omega, fun c' hc' => ⟨by omega, fun i hi e => by omega⟩, fun s' hs' => ⟨by omega, by omega, by omega, fun o ho => ⟨by omega, by omega⟩⟩, fun w hw => ⟨by omega, by omega, by omega, by omega, by omega⟩, fun i hi => ⟨by omega, by omega⟩, fun c w hc hw e => by omega⟩
          · intro j x hj q
            obtain ⟨q1, q2, q3, q4⟩ := q
            exact ⟨q1, q2, fun e => absurd e hj, q4⟩
          · obtain ⟨i1, i2, i3, i4, i5⟩ := hI2
            refine ⟨⟨i1.1, i1.2.1, hc5, i1.2.2.2⟩, i2, i3, ?_, i5⟩
            show gK g2 a = gO g2
            rw [show gK g2 a = gK g a from f1 _ _ _, show gO g2 = gO g from f1 _ _ _]
            omega
        obtain ⟨g3, σ3, τ3, eg3, r1, r2, m3, f3⟩ := hm3.shutsX hc5
        have z2 := hend _ _ _ m3
        rw [eg3, eg2] at z2
        refine ⟨σ3, ?_, z2⟩
        unfold M_X8_lead
        rw [x_isCopy h hc5, bnd1_some, if_neg n10, eP, bnd1_some, if_neg e1, ekK, bnd1_some, eO, bnd1_some, if_pos ((nI_leI (a := gO g) (b := gK g a) (by omega) (by omega)).mpr hq), hk, bnd1_some, p1, bnd1_some]
        unfold M_X1_setPrimary
        rw [chk_pos (by decide), lN_I (by omega), show ix (1 : Int32) = 1 from rfl]
        show bnd1 (M_X1_closeLog (uL σ2 29 1 (lN a)) (nI a)) _ = _
        rw [r1, bnd1_some]
      · left
        unfold M_X8_lead
        rw [x_isCopy h hc5, bnd1_some, if_neg n10, eP, bnd1_some, if_neg e1, ekK, bnd1_some, eO, bnd1_some, if_neg (fun z => hq ((nI_leI (by omega) (by omega)).mp z))]
  · left
    unfold M_X8_lead
    rw [x_noCopy h (by omega) (by omega), bnd1_some, if_pos rfl]
/-- what of a world decides what meetings make -/
def CE (g g' : Gs) : Prop := gW g' = gW g ∧ gP g' = gP g ∧ gC g' = gC g ∧ gO g' = gO g ∧ (∀ c w, gA g' c w = gA g c w) ∧ ∀ c, gK g' c = gK g c
theorem CE.refl : CE g g := ⟨rfl, rfl, rfl, rfl, fun _ _ => rfl, fun _ => rfl⟩
theorem lkN_cong {g g' : Gs} (hA : ∀ c w, gA g' c w = gA g c w) {a b : Nat} : ∀ k, lkN g' a b k = lkN g a b k := by
  intro k
  induction k with
  | zero => rfl
  | succ k ih =>
    show (if gA g' a k = 1 ∧ gA g' b k ≠ 1 then lkN g' a b k + 1 else lkN g' a b k) = (if gA g a k = 1 ∧ gA g b k ≠ 1 then lkN g a b k + 1 else lkN g a b k)
    rw [ih, hA, hA]
theorem MeetS_u {g h g' h' : Gs} {a b : Nat} (c : CE g h) (x : MeetS g a b g') (y : MeetS h a b h') : CE g' h' := by
  obtain ⟨c1, c2, c3, c4, c5, c6⟩ := c
  obtain ⟨x1, x2, x3, x4, x5, x6⟩ := x
  obtain ⟨y1, y2, y3, y4, y5, y6⟩ := y
  have eA : ∀ c w, gA h' c w = gA g' c w := fun c w => by rw [y4, x4, c5, c5]
  have eW : gW h' = gW g' := by rw [y1, x1, c1]
  rw [lkN_cong c5, c1, c2] at y6
  have key : gO h' = gO g' ∧ gK h' b = gK g' b := by
    by_cases q : b = gP g ∧ lkN g a b (gW g) ≠ 0
    · rw [if_pos q] at x6 y6
      have e : cnN (hsP h' b) (gW g) = cnN (hsP g' b) (gW g) := cnN_eq _ (fun w _ => by show decide (gA h' b w = 1) = decide (gA g' b w = 1); rw [eA])
      omega
    · rw [if_neg q] at x6 y6
      rw [c4, c6, c6] at y6
      omega
  refine ⟨eW, by rw [y2, x2, c2], by rw [y3, x3, c3], key.1, eA, fun c => ?_⟩
  by_cases hc : c = b
  · subst hc; exact key.2
  · rw [y5 c hc, x5 c hc, c6]
/-- one meeting by chance -/
def ChS (T : Td) (g g' : Gs) : Prop := gC g' = gC g + 1 ∧ (tN T ≤ 1 → g' = uG g 3 0 0 (gC g + 1)) ∧ (2 ≤ tN T → ∃ a b, a < tN T ∧ b < tN T ∧ a ≠ b ∧ M_X5_giver (nI (tN T)) (nI (tS T)) (nI (gC g)) = some (nI a) ∧ M_X5_taker (nI a) (nI (tN T)) (nI (tS T)) (nI (gC g)) = some (nI b) ∧ MeetS (uG g 3 0 0 (gC g + 1)) a b g' ∧ ∃ s, MtX (uG g 3 0 0 (gC g + 1)) a b s g' ∧ s ≤ lgn (uG g 3 0 0 (gC g + 1)) (hsP (uG g 3 0 0 (gC g + 1)) b) (gK (uG g 3 0 0 (gC g + 1)) b))
theorem CE_tick {g h : Gs} (c : CE g h) : CE (uG g 3 0 0 (gC g + 1)) (uG h 3 0 0 (gC h + 1)) := by
  obtain ⟨c1, c2, c3, c4, c5, c6⟩ := c
  refine ⟨c1, c2, ?_, c4, c5, c6⟩
  rw [show gC (uG h 3 0 0 (gC h + 1)) = gC h + 1 from uG_s (g := h) (t := 3), show gC (uG g 3 0 0 (gC g + 1)) = gC g + 1 from uG_s (g := g) (t := 3), c3]
theorem ChS_u {g h g' h' : Gs} (hn : tN T ≤ 5) (c : CE g h) (x : ChS T g g') (y : ChS T h h') : CE g' h' := by
  by_cases h2 : 2 ≤ tN T
  · obtain ⟨a, b, ha, hb, hab, x1, x2, x3, _⟩ := x.2.2 h2
    obtain ⟨a', b', ha', hb', hab', y1, y2, y3, _⟩ := y.2.2 h2
    rw [c.2.2.1, x1] at y1
    obtain rfl : a = a' := (nI_eq (by omega) (by omega)).mp (Option.some.inj y1)
    rw [c.2.2.1, x2] at y2
    obtain rfl : b = b' := (nI_eq (by omega) (by omega)).mp (Option.some.inj y2)
    exact MeetS_u (CE_tick c) x3 y3
  · rw [x.2.1 (by omega), y.2.1 (by omega)]
    exact CE_tick c
/-- so many meetings by chance -/
def ChN (T : Td) : Nat → Gs → Gs → Prop
  | 0, g, g' => g' = g
  | n + 1, g, g' => ∃ gm, ChN T n g gm ∧ ChS T gm g'
theorem ChN_u (hn : tN T ≤ 5) : ∀ (n : Nat) {g h g' h' : Gs}, CE g h → ChN T n g g' → ChN T n h h' → CE g' h'
  | 0, _, _, _, _, c, x, y => by rw [show _ = _ from x, show _ = _ from y]; exact c
  | n + 1, _, _, _, _, c, ⟨gm, x1, x2⟩, ⟨hm, y1, y2⟩ => ChS_u hn (ChN_u hn n c x1 y1) x2 y2
theorem SetT_CE {g h : Gs} (c : CE g h) : SetT T h ↔ SetT T g := by
  obtain ⟨c1, c2, c3, c4, c5, c6⟩ := c
  have e : ∀ x, alC h x = alC g x := fun x => by
    unfold alC
    rw [lkN_cong c5, lkN_cong c5, c1, c6, c6]
  unfold SetT
  rw [c1, c4]
  exact and_congr ⟨fun z x h1 h2 => by rw [← e]; exact z x h1 h2, fun z x h1 h2 => by rw [e]; exact z x h1 h2⟩ Iff.rfl
theorem ChN_C : ∀ (n : Nat) {g g' : Gs}, ChN T n g g' → gC g' = gC g + n
  | 0, _, _, h => by rw [show _ = _ from h]; rfl
  | n + 1, g, g', ⟨gm, h1, h2⟩ => by rw [h2.1, ChN_C n h1]; omega
/-- meetings by chance -/
theorem x_chance (h : At T g un hs sl hl σ) (hun : un < 40) {n : Nat} (hn : n ≤ 60) : (n = 0 ∧ M_X8_chance σ (nI n) = some (nI (gC g), σ)) ∨ (0 < n ∧ ∃ g' σ', ChN T n g g' ∧ M_X8_chance σ (nI n) = some (nI (gC g + n), σ') ∧ At T g' (un + 1) (pushH hs un g) sl hl σ') := by
  have n5 := h.n5
  obtain ⟨t, l, τ0, hQ, σ1, τ1, hk, hT1, hm, hend, hS⟩ := h.layS hun
  by_cases hn0 : n = 0
  · left
    subst hn0
    refine ⟨rfl, ?_⟩
    have e8 : M_X8_chance_J27 σ (nI 0) = some (nI (gC g), σ) := by
      unfold M_X8_chance_J27
      obtain ⟨m, hmm⟩ : ∃ m, FU = m + 1 := ⟨999999, by unfold FU; omega⟩
      have e : M_X8_chance_L29 (nI 0) 0 σ = some (.inr σ) := by
        unfold M_X8_chance_L29
        rw [if_pos (show nI 0 ≤ 0 by decide)]
      rw [hmm, it_x (x := σ) (by exact e), bnd1_some]
      show bnd1 (M_X1_chances σ) (fun r => some (r, σ)) = _
      rw [c_chances hQ.2.1.1.2.2.2.2.1, bnd1_some]
    unfold M_X8_chance
    rw [if_neg (nI_n0 (by omega)), if_pos (by decide), if_pos (show nI 0 ≤ 0 by decide), e8]
  · right
    have run : ∀ (d i : Nat) (g2 : Gs) (σ2 τ2 : Wd) (k : Nat), i + d = n → d < k → Mid T g σ1 τ1 g2 σ2 τ2 → ChN T i g g2 → ∃ g3 σ3 τ3, iter (fun s : Int32 × Wd => M_X8_chance_L29 (nI n) s.1 s.2) k (nI i, σ2) = some σ3 ∧ Mid T g σ1 τ1 g3 σ3 τ3 ∧ ChN T n g g3 := by
      intro d
      induction d with
      | zero =>
        intro i g2 σ2 τ2 k hi hk2 hm2 hc
        obtain ⟨m, rfl⟩ : ∃ m, k = m + 1 := ⟨k - 1, by omega⟩
        have hle : nI n ≤ nI i := (nI_leI (by omega) (by omega)).mpr (by omega)
        obtain rfl : i = n := by omega
        refine ⟨g2, σ2, τ2, it_x ?_, hm2, hc⟩
        show M_X8_chance_L29 (nI i) (nI i) σ2 = _
        unfold M_X8_chance_L29
        rw [if_pos hle]
      | succ d ih =>
        intro i g2 σ2 τ2 k hi hk2 hm2 hc
        obtain ⟨m, rfl⟩ : ∃ m, k = m + 1 := ⟨k - 1, by omega⟩
        have hle : ¬ nI n ≤ nI i := fun z => by have := (nI_leI (by omega) (by omega)).mp z; omega
        obtain ⟨g3, σ3, τ3, c1, c2, c3, c4, c5, c6⟩ := hm2.chanceX hT1 hS
        obtain ⟨g4, σ4, τ4, d1, d3, d4⟩ := ih (i + 1) g3 σ3 τ3 m (by omega) (by omega) c2 ⟨g2, hc, c3, c4, c5⟩
        refine ⟨g4, σ4, τ4, (it_s ?_).trans d1, d3, d4⟩
        show M_X8_chance_L29 (nI n) (nI i) σ2 = _
        rw [c6 rfl _ _ hle, nI_1]
    obtain ⟨g3, σ3, τ3, r1, r3, r4⟩ := run n 0 g σ1 τ1 FU (by omega) (FU_big (by omega)) hm rfl
    refine ⟨by omega, g3, σ3, r4, ?_, hend _ _ _ r3⟩
    have hC := ChN_C n r4
    unfold M_X8_chance M_X8_chance_J27
    rw [if_neg (nI_n0 (by omega)), if_pos (show nI n ≤ 60 from (nI_leI (b := 60) (by omega) (by decide)).mpr (by omega)), if_neg (show ¬ nI n ≤ 0 from fun z => by have := (nI_leI (b := 0) (by omega) (by decide)).mp z; omega), hk, bnd1_some, show ((0 : Int32), σ1) = (nI 0, σ1) from rfl, r1, bnd1_some]
    show bnd1 (M_X1_chances σ3) (fun r => some (r, σ3)) = _
    rw [c_chances r3.2.2.2.1.1.2.2.2.2.1, bnd1_some, hC]
end XC
