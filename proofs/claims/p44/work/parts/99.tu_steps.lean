/-! the law's steps: making -/
section ST5
variable {T : Td} {g : Gs} {un : Nat} {hs sl : Nat → Gs} {hl : Nat → Nat} {σ : Wd} {q : Lq}
theorem mkE {g gm : Gs} {v x : Int32} {c f : Nat} (hg : mkG (opG g c) v c f x gm) : (∀ t a b, t ≠ 14 → gm.1 t a b = (aG g c f (clkN g c (gW g) + 1) x).1 t a b) ∧ gm.2 = (aG (opG g c) c f (clkN g c (gW g) + 1) x).2 := by
  have ec : clkN (opG g c) c (gW (opG g c)) = clkN g c (gW g) := clkN_1 (g := g) (g' := opG g c) rfl _
  rcases hg with ⟨_, rfl⟩ | ⟨s, hs4, _, rfl⟩
  · rw [ec]
    exact ⟨fun _ _ _ _ => rfl, rfl⟩
  · rw [ec]
    exact ⟨fun t a b h => uG_o (fun z => h z.1), rfl⟩
theorem ltE {gm : Gs} {c : Nat} : (∀ t a b, t ≠ 1 → t ≠ 10 → t ≠ 6 → (ltG gm c).1 t a b = gm.1 t a b) ∧ (ltG gm c).2 = gm.2 ∧ (c ≠ gP gm → ltG gm c = gm) := by
  unfold ltG
  by_cases h : c = gP gm
  · rw [if_pos h]
    exact ⟨fun t a b h1 h2 h3 => (uG_o (fun z => h3 z.1)).trans (oG_o h2 h1), rfl, fun z => absurd h z⟩
  · rw [if_neg h]
    exact ⟨fun _ _ _ _ _ _ => rfl, rfl, fun _ => rfl⟩
theorem clk_at {g G : Gs} {c : Nat} : ∀ w, (∀ k, k < w → gA G c k = gA g c k ∧ gS G k = gS g k) → clkN G c w = clkN g c w := by
  intro w
  induction w with
  | zero => intro _; rfl
  | succ w ih =>
    intro h
    show (if gA G c w = 1 then max (clkN G c w) (gS G w) else clkN G c w) = (if gA g c w = 1 then max (clkN g c w) (gS g w) else clkN g c w)
    rw [ih (fun k hk => h k (by omega)), (h w (by omega)).1, (h w (by omega)).2]
/-- the world after a write made -/
def Made (T : Td) (g : Gs) (c f : Nat) (x : Int32) (G : Gs) : Prop :=
  (gW G = gW g + 1) ∧
  (gC G = gC g) ∧
  (gP G = gP g) ∧
  (gF G (gW g) = f) ∧
  (gN G (gW g) = c) ∧
  (gS G (gW g) = clkN g c (gW g) + 1) ∧
  (∀ w, w < gW g → gS G w = gS g w) ∧
  (∀ a w, gA G a w = if a = c ∧ w = gW g then 1 else gA g a w) ∧
  (iX G (gW g) = x) ∧
  (gh G 0 = c) ∧
  (0 < gH G) ∧
  (∀ y, iC G 0 y = iC g 0 y) ∧
  (∀ y, iC G 2 y = if y = c then iC g 2 y + 1 else iC g 2 y) ∧
  (∀ y, iC G 3 y = if y = c then iC g 3 y + 1 else iC g 3 y) ∧
  (∀ y, iRf G y = iRf g y) ∧
  (c ≠ gP g → (∀ i, gD G i = gD g i) ∧ gO G = gO g ∧ ∀ a, gK G a = gK g a) ∧
  (Inv (tN T) (tF T) g → gW g < 60 → c < tN T → f < tF T → c = gP g → gO G = cnN (hsP G c) (gW g + 1))
theorem Made.W {T : Td} {g : Gs} {c f : Nat} {x : Int32} {G : Gs} (h : Made T g c f x G) : gW G = gW g + 1 := h.1
theorem Made.C {T : Td} {g : Gs} {c f : Nat} {x : Int32} {G : Gs} (h : Made T g c f x G) : gC G = gC g := h.2.1
theorem Made.P {T : Td} {g : Gs} {c f : Nat} {x : Int32} {G : Gs} (h : Made T g c f x G) : gP G = gP g := h.2.2.1
theorem Made.F {T : Td} {g : Gs} {c f : Nat} {x : Int32} {G : Gs} (h : Made T g c f x G) : gF G (gW g) = f := h.2.2.2.1
theorem Made.N {T : Td} {g : Gs} {c f : Nat} {x : Int32} {G : Gs} (h : Made T g c f x G) : gN G (gW g) = c := h.2.2.2.2.1
theorem Made.S {T : Td} {g : Gs} {c f : Nat} {x : Int32} {G : Gs} (h : Made T g c f x G) : gS G (gW g) = clkN g c (gW g) + 1 := h.2.2.2.2.2.1
theorem Made.So {T : Td} {g : Gs} {c f : Nat} {x : Int32} {G : Gs} (h : Made T g c f x G) : ∀ w, w < gW g → gS G w = gS g w := h.2.2.2.2.2.2.1
theorem Made.A {T : Td} {g : Gs} {c f : Nat} {x : Int32} {G : Gs} (h : Made T g c f x G) : ∀ a w, gA G a w = if a = c ∧ w = gW g then 1 else gA g a w := h.2.2.2.2.2.2.2.1
theorem Made.X {T : Td} {g : Gs} {c f : Nat} {x : Int32} {G : Gs} (h : Made T g c f x G) : iX G (gW g) = x := h.2.2.2.2.2.2.2.2.1
theorem Made.h0 {T : Td} {g : Gs} {c f : Nat} {x : Int32} {G : Gs} (h : Made T g c f x G) : gh G 0 = c := h.2.2.2.2.2.2.2.2.2.1
theorem Made.hH {T : Td} {g : Gs} {c f : Nat} {x : Int32} {G : Gs} (h : Made T g c f x G) : 0 < gH G := h.2.2.2.2.2.2.2.2.2.2.1
theorem Made.i0 {T : Td} {g : Gs} {c f : Nat} {x : Int32} {G : Gs} (h : Made T g c f x G) : ∀ y, iC G 0 y = iC g 0 y := h.2.2.2.2.2.2.2.2.2.2.2.1
theorem Made.i2 {T : Td} {g : Gs} {c f : Nat} {x : Int32} {G : Gs} (h : Made T g c f x G) : ∀ y, iC G 2 y = if y = c then iC g 2 y + 1 else iC g 2 y := h.2.2.2.2.2.2.2.2.2.2.2.2.1
theorem Made.i3 {T : Td} {g : Gs} {c f : Nat} {x : Int32} {G : Gs} (h : Made T g c f x G) : ∀ y, iC G 3 y = if y = c then iC g 3 y + 1 else iC g 3 y := h.2.2.2.2.2.2.2.2.2.2.2.2.2.1
theorem Made.rf {T : Td} {g : Gs} {c f : Nat} {x : Int32} {G : Gs} (h : Made T g c f x G) : ∀ y, iRf G y = iRf g y := h.2.2.2.2.2.2.2.2.2.2.2.2.2.2.1
theorem Made.oth {T : Td} {g : Gs} {c f : Nat} {x : Int32} {G : Gs} (h : Made T g c f x G) : c ≠ gP g → (∀ i, gD G i = gD g i) ∧ gO G = gO g ∧ ∀ a, gK G a = gK g a := h.2.2.2.2.2.2.2.2.2.2.2.2.2.2.2.1
theorem Made.pri {T : Td} {g : Gs} {c f : Nat} {x : Int32} {G : Gs} (h : Made T g c f x G) : Inv (tN T) (tF T) g → gW g < 60 → c < tN T → f < tF T → c = gP g → gO G = cnN (hsP G c) (gW g + 1) := h.2.2.2.2.2.2.2.2.2.2.2.2.2.2.2.2
theorem made {gm : Gs} {v x : Int32} {c f : Nat} (hg : mkG (opG g c) v c f x gm) : Made T g c f x (shG (ltG gm c) c) := by
  obtain ⟨m1, m2⟩ := mkE hg
  obtain ⟨l1, l2, l3⟩ := ltE (gm := gm) (c := c)
  have g1 : ∀ t a b, t ≠ 1 → t ≠ 10 → t ≠ 6 → t ≠ 4 → t ≠ 5 → t ≠ 14 → (shG (ltG gm c) c).1 t a b = (aG g c f (clkN g c (gW g) + 1) x).1 t a b := fun t a b h1 h2 h3 h4 h5 h6 => by
    show (if t = 5 then (if a = 0 then c else (ltG gm c).1 5 (a - 1) b) else if t = 4 then min 8 ((ltG gm c).1 4 0 0 + 1) else (ltG gm c).1 t a b) = _
    rw [if_neg h5, if_neg h4, l1 t a b h1 h2 h3, m1 t a b h6]
  have g2 : ∀ t a, (shG (ltG gm c) c).2 t a = if t = 4 ∧ a = c then g.2 4 c + 1 else (aG (opG g c) c f (clkN g c (gW g) + 1) x).2 t a := fun t a => by
    show (if t = 4 ∧ a = c then (ltG gm c).2 4 c + 1 else (ltG gm c).2 t a) = _
    rw [l2, m2]
    rfl
  have gw : ∀ t a, t ≠ 0 → (aG (opG g c) c f (clkN g c (gW g) + 1) x).2 t a = (opG g c).2 t a := fun t a h => aG_V (Or.inl h)
  have gA' : ∀ a w, gA (shG (ltG gm c) c) a w = if a = c ∧ w = gW g then 1 else gA g a w := fun a w => (g1 11 a w (by decide) (by decide) (by decide) (by decide) (by decide) (by decide)).trans aG_A
  refine ⟨g1 0 0 0 (by decide) (by decide) (by decide) (by decide) (by decide) (by decide), ?_, ?_, ?_, ?_, ?_, fun w hw => ?_, gA', ?_, rfl, ?_, fun y => ?_, fun y => ?_, fun y => ?_, fun y => ?_, fun hP => ?_, fun hI hW hc hf hP => ?_⟩
  · exact (g1 3 0 0 (by decide) (by decide) (by decide) (by decide) (by decide) (by decide)).trans (aG_o (by decide) (Or.inr ⟨by decide, by decide, by decide⟩) (by decide))
  · exact (g1 2 0 0 (by decide) (by decide) (by decide) (by decide) (by decide) (by decide)).trans (aG_o (by decide) (Or.inr ⟨by decide, by decide, by decide⟩) (by decide))
  · exact (g1 7 _ 0 (by decide) (by decide) (by decide) (by decide) (by decide) (by decide)).trans aG_F
  · exact (g1 8 _ 0 (by decide) (by decide) (by decide) (by decide) (by decide) (by decide)).trans aG_N
  · exact (g1 9 _ 0 (by decide) (by decide) (by decide) (by decide) (by decide) (by decide)).trans aG_S
  · exact (g1 9 w 0 (by decide) (by decide) (by decide) (by decide) (by decide) (by decide)).trans (aG_o (by decide) (Or.inl (by omega)) (by decide))
  · show (shG (ltG gm c) c).2 0 (gW g) = x
    rw [g2, if_neg (fun z => absurd z.1 (by decide))]
    exact aG_X (g := opG g c)
  · show 0 < min 8 ((ltG gm c).1 4 0 0 + 1)
    omega
  · show (shG (ltG gm c) c).2 1 y = _
    rw [g2, if_neg (fun z => absurd z.1 (by decide)), gw _ _ (by decide)]
    rfl
  · show (shG (ltG gm c) c).2 3 y = _
    rw [g2, if_neg (fun z => absurd z.1 (by decide)), gw _ _ (by decide)]
    exact op_f y
  · show (shG (ltG gm c) c).2 4 y = _
    rw [g2]
    by_cases e : y = c
    · subst e; rw [if_pos ⟨rfl, rfl⟩, if_pos rfl]
    · rw [if_neg (fun z => e z.2), if_neg e, gw _ _ (by decide)]
      rfl
  · show (shG (ltG gm c) c).2 5 y = _
    rw [g2, if_neg (fun z => absurd z.1 (by decide)), gw _ _ (by decide)]
    rfl
  · have hP' : c ≠ gP gm := by
      rw [show gP gm = gP g from (m1 2 0 0 (by decide)).trans (aG_o (by decide) (Or.inr ⟨by decide, by decide, by decide⟩) (by decide))]
      exact hP
    rw [l3 hP']
    refine ⟨fun i => ?_, ?_, fun a => ?_⟩
    · show gm.1 10 i 0 = _
      exact (m1 10 i 0 (by decide)).trans (aG_o (by decide) (Or.inr ⟨by decide, by decide, by decide⟩) (by decide))
    · show gm.1 1 0 0 = _
      exact (m1 1 0 0 (by decide)).trans (aG_o (by decide) (Or.inr ⟨by decide, by decide, by decide⟩) (by decide))
    · show gm.1 6 a 0 = _
      exact (m1 6 a 0 (by decide)).trans (aG_o (by decide) (Or.inr ⟨by decide, by decide, by decide⟩) (by decide))
  · have hIa := Inv_w (x := x) hI hW hc hf
    have hPm : gP gm = gP g := (m1 2 0 0 (by decide)).trans (aG_o (by decide) (Or.inr ⟨by decide, by decide, by decide⟩) (by decide))
    have hOm : gO gm = gO g := (m1 1 0 0 (by decide)).trans (aG_o (by decide) (Or.inr ⟨by decide, by decide, by decide⟩) (by decide))
    have e1 : gO (shG (ltG gm c) c) = lgn gm (hsP gm (gP gm)) (gO gm) := by
      show (ltG gm c).1 1 0 0 = _
      unfold ltG
      rw [if_pos (hP.trans hPm.symm)]
      rfl
    have ha : ∀ t a b, t ≠ 14 → gm.1 t a b = (aG g c f (clkN g c (gW g) + 1) x).1 t a b := m1
    have e2 := (lg_cong (g := aG g c f (clkN g c (gW g) + 1) x) (g' := gm) (P := hsP (aG g c f (clkN g c (gW g) + 1) x) c) (P' := hsP gm c) (k := gO g) (fun y => ha 10 y 0 (by decide)) (fun y => ha 8 y 0 (by decide)) (fun y => ha 9 y 0 (by decide)) (ha 0 0 0 (by decide)) (fun w _ => by
      show decide (gm.1 11 c w = 1) = decide ((aG g c f (clkN g c (gW g) + 1) x).1 11 c w = 1)
      rw [ha 11 c w (by decide)])).2
    have e3 := lgn_cn hIa (c := c) (by have := hI.1.2.2.2.2.1; omega)
    have eK : gK (aG g c f (clkN g c (gW g) + 1) x) c = gO g := by
      rw [show gK (aG g c f (clkN g c (gW g) + 1) x) c = gK g c from aG_o (by decide) (Or.inr ⟨by decide, by decide, by decide⟩) (by decide), hP]
      exact hI.2.2.2.1
    rw [eK] at e3
    rw [e1, hPm, ← hP, hOm, e2, e3]
    refine (cnN_eq _ (fun w _ => ?_)).trans rfl
    show decide (gA (aG g c f (clkN g c (gW g) + 1) x) c w = 1) = decide (gA (shG (ltG gm c) c) c w = 1)
    rw [gA', aG_A]
/-- a write made: all that is asked of it -/
theorem s_made {G : Gs} {σ1 : Wd} {k n a b f : Nat} {v25 : Int32} (hU : un < 40) (hW : gW g < 60) (hI : Inv (tN T) (tF T) g) (hM : Made T g a f (((lX q (ix (nI n))) >>> ((3 : Int32) &&& 31)) &&& (15 : Int32)) G) (h1 : At T G (un + 1) (pushH hs un g) sl hl σ1) (haN : a < tN T) (hfF : f < tF T) (hv : v25 ≠ 0) (hn : n < 44) (hb : b ≤ tN T) (hS : SI k g) : Ends T un k sl hl n (M_L_law_J439 q σ1 (nI (tN T)) (nI (tC T)) (nI n) (nI a) (nI b) (nI (gW g)) (nI (gO g)) (smN g 0 (tN T)) (smN g 2 (tN T)) (rfN g 4) (nI un) (copyV T g a 0) (copyV T g b 1) (nI (gQ g 0)) (nI (gP g)) (1 : Int32) (nI f) v25 (nI (gW g)) (1 : Int32)) := by
  have n5 := h1.n5
  have hIG := h1.inv
  have hnn := n5.2.1
  have hM' := hM
  obtain ⟨W, C, P, F, N, S, So, A, X, h0, hH, i0, i2, i3, rf, oth, pri⟩ := hM'
  have lw := h1.lnW haN
  have hcl := clkN_le (c := a) hI (gW g) (Nat.le_refl _)
  have hcv : copyV T g a 0 = nI (clkN g a (gW g)) := by
    unfold copyV
    rw [if_pos haN, if_pos rfl]
  have hclk : clkN G a (gW G) = clkN g a (gW g) + 1 := by
    rw [W]
    show (if gA G a (gW g) = 1 then max (clkN G a (gW g)) (gS G (gW g)) else clkN G a (gW g)) = _
    rw [if_pos (by rw [A, if_pos ⟨rfl, rfl⟩]), S, clk_at (gW g) (fun w hw => ⟨by rw [A, if_neg (fun z => by omega)], So w hw⟩)]
    omega
  have hgw : gW g < gW G := by omega
  obtain ⟨x0, x1, x2, x4, r, x3, x3'⟩ := x_write h1 hgw
  rw [F] at x0
  rw [N] at x1
  rw [S] at x2
  have x5 := x_with h1 hgw
  rw [X] at x5
  have hm4 : mkN (fun c => decide (gA G c (gW g) = 1)) (tN T) = ((1 : Int32) <<< (nI a &&& 31)) := by
    have : mkN (fun c => decide (gA G c (gW g) = 1)) (tN T) = mkN (fun i => decide (i = a)) (tN T) := mkN_same _ (fun c _ => by
      show decide (gA G c (gW g) = 1) = decide (c = a)
      rw [A]
      by_cases e : c = a
      · rw [if_pos ⟨e, rfl⟩]; simp [e]
      · rw [if_neg (fun z => e z.1)]
        have : gA g c (gW g) ≠ 1 := fun z => by have := (hI.2.2.2.2.2.1 _ _ z).1; omega
        simp [e, this])
    rw [this]
    exact mk1 ⟨tN T, by omega⟩ ⟨a, by omega⟩ haN
  rw [hm4] at x4
  have LG := logC hIG hnn haN
  obtain ⟨p, hp, hpw⟩ := LG.all (gW g) hgw (by show decide (gA G a (gW g) = 1) = true; rw [A, if_pos ⟨rfl, rfl⟩]; rfl)
  -- in the order at the leader alone
  have hplace : (a = gP g → ¬ r < 0) ∧ (a ≠ gP g → r < 0) := by
    refine ⟨fun e => ?_, fun e => ?_⟩
    · have eO := pri hI hW haN hfF e
      have eL : ln G a = cnN (hsP G a) (gW g + 1) := by
        have := lgn_cn hIG (c := a) (by omega)
        rw [W] at this
        exact this
      have eK : gK G a = gO G := by
        have := hIG.2.2.2.1
        rw [P, ← e] at this
        exact this
      have : p < gO G := by omega
      rcases x3' with ⟨i, _, _, e3⟩ | ⟨z, _⟩
      · rw [e3]; exact nI_n0 (by omega)
      · exact absurd ((LG.known p (by omega)).symm.trans hpw) (z p this)
    · rcases x3' with ⟨i, j1, j2, _⟩ | ⟨_, z⟩
      · exfalso
        obtain ⟨o1, o2, _⟩ := oth e
        rw [o1] at j2
        have := hI.2.2.2.2.2.2.2.1 i (by omega)
        omega
      · rw [z]; decide
  -- the last of the copy's log where it does not lead
  have hlast : a ≠ gP g → p = ln G a - 1 := fun e => by
    obtain ⟨o1, o2, o3⟩ := oth e
    refine Decidable.byContradiction (fun hne => ?_)
    have hk : gK G a ≤ p := by
      refine Nat.le_of_not_lt (fun z => ?_)
      have e1 := LG.known p z
      have kO := hI.2.2.1 a (by omega)
      have := hI.2.2.2.2.2.2.2.1 p (by have := o3 a; omega)
      rw [hpw, o1] at e1
      omega
    have hs1 : gS G (lf G a p) < gS G (lf G a (p + 1)) ∨ (gS G (lf G a (p + 1)) = gS G (lf G a p) ∧ gN G (lf G a p) < gN G (lf G a (p + 1))) := LG.srt p (p + 1) hk (by omega) (by omega)
    have hm := (ln_facts hIG (show a < 5 by omega)).2.2.2.1 (p + 1) (by omega)
    have hlt := LG.lt (p + 1) (by omega)
    have hne2 : lf G a (p + 1) ≠ gW g := fun z => by
      have := LG.inj (p + 1) p (by omega) hp (z.trans hpw.symm)
      omega
    have hlt2 : lf G a (p + 1) < gW g := by omega
    rw [A, if_neg (fun z => hne2 z.2)] at hm
    have hcg := clkN_ge hm (gW g) hlt2
    rw [hpw, S, So _ hlt2] at hs1
    omega
  obtain ⟨σ2, e2, h2⟩ := x_copy h1 (c := a) (k := 0) (by omega) (by decide)
  have c2 : copyV T G a 0 = nI (clkN g a (gW g) + 1) := by
    unfold copyV
    rw [if_pos haN, if_pos rfl, hclk]
  rw [c2] at e2
  obtain ⟨_, _, _, _, r', y3, y3'⟩ := x_write h2 hgw
  have hrr : r' < 0 ↔ r < 0 := by
    have k : ∀ {r : Int32}, ((∃ i, i < gO G ∧ gD G i = gW g ∧ r = nI i) ∨ ((∀ i, i < gO G → gD G i ≠ gW g) ∧ r = -2)) → (r < 0 ↔ ∀ i, i < gO G → gD G i ≠ gW g) := fun {r} hr => by
      rcases hr with ⟨i, i1, i2, e⟩ | ⟨z, e⟩
      · rw [e]
        exact ⟨fun y => absurd y (nI_n0 (by omega)), fun y => absurd i2 (y i i1)⟩
      · rw [e]
        exact ⟨fun _ => z, fun _ => by decide⟩
    exact (k y3').trans (k x3').symm
  have hSS : SI (k + 1) G := hS.of (by rw [W]; have := hS.1; omega) (by rw [C]; have := hS.2.1; omega) (one_b i2 i3) (fun y => ⟨0, by omega, by rw [i0, add_z]⟩)
  -- from 659 on
  have j659 : ∀ {σ3 : Wd}, At T G (un + 1) (pushH hs un g) sl hl σ3 → Ends T un k sl hl n (M_L_law_J659 q σ3 (nI (tN T)) (nI (tC T)) (nI n) (nI a) (nI b) (nI (gW g)) (nI (gO g)) (smN g 0 (tN T)) (smN g 2 (tN T)) (rfN g 4) (nI un) (copyV T g a 0) (copyV T g b 1) (nI (gQ g 0)) (nI (gP g)) (1 : Int32) v25) := fun {σ3} h3 => by
    have q2 := smN_up (g := g) (g' := G) (j := 2) (c := a) (d := 1) i2 (tN T)
    rw [if_pos haN] at q2
    have q0 := smN_eq (g := g) (g' := G) (j := 0) i0 (tN T)
    have q3 := rfN_eq (g := g) (g' := G) rf 4
    have e8 := x_shut h3 (i := 0) (by decide)
    rw [if_pos hH, h0] at e8
    have e8' : M_X8_shut σ3 0 = some (nI a) := e8
    unfold M_L_law_J659 M_L_law_J675 M_L_law_J728 M_L_law_J737
    rw [x_count7 h3, bnd2_some, q0, if_neg (fun z => z rfl), if_neg n10, if_neg n10, e8', bnd1_some, if_neg (fun z => z rfl), x_count12 h3, bnd2_some, q2, if_neg (fun z => z rfl), x_count16 h3, bnd2_some, q3, if_neg hv, if_neg (fun z => z (Int32.add_zero _).symm)]
    exact s_1410 hU hn (by omega) hb hS (Or.inr ⟨rfl, _, hSS, h3⟩)
  have y3p : M_X8_write σ2 (nI (gW g)) 3 = some r' := y3
  unfold M_L_law_J439
  rw [if_neg n10, if_neg hv, if_neg (fun z => by have := (nI_leI (a := 60) (by decide) (by omega)).mp z; omega)]
  unfold M_L_law_J461 M_L_law_J476
  rw [if_neg (fun z => z rfl), if_pos (show nI (gW g) ≠ (-2 : Int32) from fun z => nI_n0 (c := gW g) (by omega) (by rw [z]; decide)), if_neg n10, if_pos hv]
  unfold M_L_law_J490 M_L_law_J491
  rw [if_neg (fun z => z rfl), if_neg (nI_n0 (by omega)), if_neg (fun z => z rfl), x_count3 h1, bnd2_some, W, if_neg (fun z => z (nI_1 _).symm), show M_X8_write σ1 (nI (gW g)) 0 = _ from x0, bnd1_some, if_neg (fun z => z rfl), show M_X8_write σ1 (nI (gW g)) 1 = _ from x1, bnd1_some, if_neg (fun z => z rfl), show M_X8_write σ1 (nI (gW g)) 2 = _ from x2, bnd1_some, hcv, if_neg (fun z => z (nI_1 _).symm), show M_X8_write σ1 (nI (gW g)) 4 = _ from x4, bnd1_some, if_neg (fun z => z rfl), x5, bnd1_some, chk_pos ((ib_nI (by omega)).mpr (by omega)), if_neg (fun z => z rfl), show M_X8_copy σ1 (nI a) 0 = _ from e2, bnd2_some, if_neg (fun z => z (nI_1 _).symm), y3p, bnd1_some, ← hcv]
  by_cases hP : a = gP g
  · have hr0 : ¬ r' < 0 := fun z => hplace.1 hP (hrr.mp z)
    rw [if_neg hr0]
    unfold M_L_law_J617 M_L_law_J629
    rw [if_neg (fun z => z (by rw [hP])), if_neg (fun z => z rfl), if_pos (by rw [hP])]
    exact j659 h2
  · have hr0 : r' < 0 := hrr.mpr (hplace.2 hP)
    have hne : nI a ≠ nI (gP g) := fun z => hP ((nI_eq (by omega) (by have := hI.1.2.2.1; omega)).mp z)
    rw [if_pos hr0]
    obtain ⟨σ3, e3, h3⟩ := x_copy h2 (c := a) (k := 1) (by omega) (by decide)
    have c3 : copyV T G a 1 = nI (ln G a) := by
      unfold copyV
      rw [if_pos haN, if_neg (by decide), if_pos rfl]
    rw [c3] at e3
    obtain ⟨σ4, e4, h4⟩ := x_log h3 (c := a) (i := ln G a - 1) haN (by omega)
    rw [if_pos (by omega), ← hlast hP, hpw] at e4
    unfold M_L_law_J617 M_L_law_J629
    rw [if_pos hne, if_neg (fun z => z rfl), if_neg hne, show M_X8_copy σ2 (nI a) 1 = _ from e3, bnd2_some, show nI (ln G a) - (1 : Int32) = nI p by rw [hlast hP]; exact nI_pred1 (by omega), e4, bnd2_some, if_neg (fun z => z rfl)]
    exact j659 h4
end ST5
