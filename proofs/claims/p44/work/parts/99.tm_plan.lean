/-! the law's end: the plan carried out -/
theorem b5_0 : ∀ m : Fin 32, b5 m.val = 0 → m.val = 0 := by decide +kernel
theorem b5_n {n m : Nat} (hn : n ≤ 5) (hm : m < 2 ^ n) : b5 m = cnN (fun i => m.testBit i) n := by
  have hb : ∀ i, n ≤ i → m.testBit i = false := fun i hi => Nat.testBit_lt_two_pow (Nat.lt_of_lt_of_le hm (Nat.pow_le_pow_right (by decide) hi))
  have : ∀ d, n + d ≤ 5 → cnN (fun i => m.testBit i) (n + d) = cnN (fun i => m.testBit i) n := by
    intro d
    induction d with
    | zero => intro _; rfl
    | succ d ih =>
      intro h
      show (if m.testBit (n + d) = true then cnN (fun i => m.testBit i) (n + d) + 1 else cnN (fun i => m.testBit i) (n + d)) = _
      rw [hb _ (by omega), if_neg (by decide), ih (by omega)]
  have := this (5 - n) (by omega)
  rw [show n + (5 - n) = 5 by omega] at this
  exact this
theorem mk_cn {p : Nat → Bool} {n mm : Nat} (hn : n ≤ 5) (hm : mm < 32) (e : mkN p n = nI mm) : (∀ i, i < n → mm.testBit i = p i) ∧ b5 mm = cnN p n := by
  obtain ⟨m', h1, h2, h3⟩ := mk_nat (p := p) n hn
  obtain rfl : m' = mm := (nI_eq (by omega) (by omega)).mp (h3.symm.trans e)
  have hb : ∀ i, i < n → m'.testBit i = p i := fun i hi => by
    have a := mk_bit (p := p) hn hi
    rw [e, bitm hm (by omega)] at a
    cases hq : m'.testBit i <;> cases hp : p i <;> rw [hq, hp] at a <;> first | rfl | exact absurd a (by decide)
  refine ⟨hb, ?_⟩
  rw [b5_n hn h1]
  exact cnN_eq n hb
theorem mk_z {p : Nat → Bool} : ∀ n, (∀ c, c < n → p c = false) → mkN p n = 0 := fun n h => by rw [mkN_same n (q := fun _ => false) h, mk_0]
section PL
variable {T : Td} {g0 g : Gs} {un : Nat} {σ : Wd} {q : Lq}
theorem allB_of {n m k : Nat} (hI : Inv n m g) (hA : ∀ c w, c < n → w < gW g → gA g c w = 1) (hK : ∀ c, c < n → gK g c = k) : allB g n = true := by
  refine (allB_iff n).mpr (fun c _ hc => (al3_iff hI).mpr ⟨fun w => ⟨fun z => hA c w hc (hI.2.2.2.2.2.1 _ _ z).1, fun z => hA 0 w (by omega) (hI.2.2.2.2.2.1 _ _ z).1⟩, ?_⟩)
  rw [hK c hc, hK 0 (by omega)]
theorem allB_all {n m : Nat} (hI : Inv n m g) (h : allB g n = true) : (∀ c w, c < n → w < gW g → gA g c w = 1) ∧ ∀ c, c < n → gK g c = gO g := by
  have h := (allB_iff n).mp h
  have al : ∀ c, c < n → al3 g 0 c = true := fun c hc => by
    by_cases e : c = 0
    · rw [e]; exact al3_self
    · exact h c (by omega) hc
  have s : ∀ c, c < n → (∀ w, gA g 0 w = 1 ↔ gA g c w = 1) ∧ gK g 0 = gK g c := fun c hc => (al3_iff hI).mp (al c hc)
  have hP := hI.1.2.2.1
  refine ⟨fun c w hc hw => ?_, fun c hc => ?_⟩
  · obtain ⟨_, hN, _, _, hA⟩ := hI.2.2.2.2.2.2.2.2.2.1 w hw
    exact ((s c hc).1 w).mp (((s _ hN).1 w).mpr hA)
  · rw [← (s c hc).2, (s _ hP).2]
    exact hI.2.2.2.1
theorem plan_0 {hs sl : Nat → Gs} {hl : Nat → Nat} (hA : At T g un hs sl hl σ) {m mm : Nat} (h1 : Lst (brB g (tN T)) (2 ^ tN T) m) (hm : m < 32) (hmm : mm < 32) (h2 : mkN (tkP g m) (tN T) = nI mm) : b5 m + b5 mm = 0 ↔ allB g (tN T) = true := by
  have n5 := hA.n5
  have hI := hA.inv
  constructor
  · intro hz
    have m0 : m = 0 := b5_0 ⟨m, hm⟩ (by show b5 m = 0; omega)
    have mm0 : mm = 0 := b5_0 ⟨mm, hmm⟩ (by show b5 mm = 0; omega)
    subst m0
    have hb := (mk_cn n5.2.1 hmm h2).1
    have hPall : ∀ w, w < gW g → gA g (gP g) w = 1 := fun w hw => by
      have hBr : ∀ w, w < gW g → bbN g 0 w (tN T) = true := of_decide_eq_true h1.2.1
      rcases (bbN_iff _).mp (hBr w hw) with a | ⟨c, _, c2, _⟩
      · exact a
      · rw [Nat.zero_testBit] at c2; exact absurd c2 (by decide)
    have key : ∀ c, c < tN T → (∀ w, w < gW g → gA g c w = 1) ∧ gK g c = gO g := fun c hc => by
      have := hb c hc
      rw [mm0, Nat.zero_testBit] at this
      have : (decide (c = gP g) || fuB g (if 0 = 0 then gO g else gW g) c) = true := by
        unfold tkP at this
        cases hq : (decide (c = gP g) || fuB g (if 0 = 0 then gO g else gW g) c) with
        | true => rfl
        | false => rw [hq] at this; exact absurd this (by decide)
      rw [Bool.or_eq_true, decide_eq_true_eq] at this
      rcases this with z | z
      · rw [z]; exact ⟨hPall, hI.2.2.2.1⟩
      · unfold fuB at z
        rw [Bool.and_eq_true, decide_eq_true_eq, decide_eq_true_eq, if_pos rfl] at z
        exact z
    exact allB_of hI (fun c w hc hw => (key c hc).1 w hw) (fun c hc => (key c hc).2)
  · intro h
    obtain ⟨a1, a2⟩ := allB_all hI h
    have b0 : brB g (tN T) 0 = true := decide_eq_true (fun w hw => (bbN_iff _).mpr (Or.inl (a1 _ w n5.2.2.2.2.2.2 hw)))
    have m0 : m = 0 := by
      rcases h1.2.2 0 (Nat.pow_pos (by decide)) b0 with z | z
      · exact absurd z (by rw [show b5 0 = 0 from rfl]; omega)
      · omega
    subst m0
    have : mkN (tkP g 0) (tN T) = 0 := mk_z _ (fun c hc => by
      unfold tkP fuB
      rw [if_pos rfl, decide_eq_true (show gK g c = gO g from a2 c hc), decide_eq_true (show ∀ w, w < gW g → gA g c w = 1 from fun w hw => a1 c w hc hw)]
      simp)
    have mm0 : mm = 0 := (nI_eq (b := 0) (by omega) (by decide)).mp (h2.symm.trans this)
    rw [mm0]
    rfl
/-- what was brought so far -/
theorem f_loop2868 {m mm : Nat} {v5 v8 v9 v10 v12 v14 : Int32} (hW6 : gW g0 ≤ 60) (hn : tN T ≤ 5) (hP : gP g0 < tN T) (h1 : Lst (brB g0 (tN T)) (2 ^ tN T) m) (hm : m < 32) (hoff : m.testBit (gP g0) = false) : ∀ (d i k un : Nat) (g : Gs) (σ : Wd), i + d = tN T → d < k → HD T g0 g un σ → un + d < 30 → QP g0 m i g → ∃ un' g' σ', iter (fun s : Int32 × Int32 × Wd => M_L_law_L2868 q v5 (nI (tN T)) v8 v9 v10 (nI (gP g0)) v12 (nI m) v14 s.1 s.2.1 s.2.2) k (nI (cnN (fun i => m.testBit i) i), nI i, σ) = some (nI (cnN (fun i => m.testBit i) (tN T)), σ') ∧ HD T g0 g' un' σ' ∧ un' + 0 ≤ un + d ∧ QP g0 m (tN T) g' := by
  intro d
  induction d with
  | zero =>
    intro i k un g σ hi hk h hun hq
    obtain ⟨k', rfl⟩ : ∃ k', k = k' + 1 := ⟨k - 1, by omega⟩
    obtain rfl : i = tN T := by omega
    refine ⟨un, g, σ, it_x ?_, h, by omega, hq⟩
    show M_L_law_L2868 q v5 (nI (tN T)) v8 v9 v10 (nI (gP g0)) v12 (nI m) v14 _ (nI (tN T)) σ = _
    unfold M_L_law_L2868
    rw [if_pos ((nI_leI (by omega) (by omega)).mpr (Nat.le_refl _))]
  | succ d ih =>
    intro i k un g σ hi hk h hun ⟨p1, p2, p3, p4, p5, p6⟩
    obtain ⟨k', rfl⟩ : ∃ k', k = k' + 1 := ⟨k - 1, by omega⟩
    obtain ⟨hs, sl, hl, hA, y1, y2, y3⟩ := id h
    have h32 : 2 ^ tN T ≤ 32 := (two5 ⟨tN T, by omega⟩).2.2.1
    have f1 : ∀ w, bbN g0 m w (i + 1) = if m.testBit i = true then (bbN g0 m w i || decide (gA g0 i w = 1)) else bbN g0 m w i := fun w => rfl
    have ec : cnN (fun i => m.testBit i) (i + 1) = if m.testBit i = true then cnN (fun i => m.testBit i) i + 1 else cnN (fun i => m.testBit i) i := rfl
    by_cases hb : m.testBit i = true
    · have hne : i ≠ gP g0 := fun e => by rw [e, hoff] at hb; exact Bool.noConfusion hb
      obtain ⟨s, g', σ', σw, al, c1, mx, em, hA', _, _⟩ := x_meet hA (a := i) (b := gP g0) (by omega) (by omega) hP hne
      obtain ⟨c1, c2, c3, c4, c5, c6⟩ := c1
      have hnz : lkN g i (gP g0) (gW g) ≠ 0 := fun z => lst_news hn h32 h1 (show i < tN T by omega) hb (fun w hw hAA => (p4 w).mp ((lkN_0 _).mp z w (by rw [p1]; exact hw) ((p3 i w hne).trans hAA)))
      rw [if_pos ⟨p2.symm, hnz⟩, p1] at c6
      have hQ' : QP g0 m (i + 1) g' := ⟨c1.trans p1, c2.trans p2, fun c w hc => by
          rw [c4, if_neg (fun z => hc z.1)]
          exact p3 c w hc, fun w => by
          rw [c4, f1, if_pos hb, Bool.or_eq_true, decide_eq_true_iff, p3 i w hne]
          by_cases hAA : gA g0 i w = 1
          · rw [if_pos ⟨rfl, hAA⟩]
            exact ⟨fun _ => Or.inr hAA, fun _ => rfl⟩
          · rw [if_neg (fun z => hAA z.2), p4]
            exact ⟨fun z => Or.inl z, fun z => z.elim id (fun q => absurd q hAA)⟩, fun c hc => (c5 c hc).trans (p5 c hc), Or.inr ⟨⟨i, by omega, hb⟩, c6.1.trans c6.2⟩⟩
      obtain ⟨u2, g2, σ2, r1, r2, r3, r4⟩ := ih (i + 1) k' (un + 1) g' σ' (by omega) (by omega) (HD.push hA' y1 y2 y3) (by omega) hQ'
      refine ⟨u2, g2, σ2, (it_s ?_).trans r1, r2, by omega, r4⟩
      show M_L_law_L2868 q v5 (nI (tN T)) v8 v9 v10 (nI (gP g0)) v12 (nI m) v14 (nI (cnN (fun i => m.testBit i) i)) (nI i) σ = _
      have hln := (hA.lnW hP).2.2
      have hsl := al.1
      unfold M_L_law_L2868
      rw [if_neg (fun z => by have := (nI_leI (by omega) (by omega)).mp z; omega), bitm hm (by omega), if_pos hb, if_neg (fun z => z rfl), em, bnd2_some, nI_nat hsl, if_neg (nI_n0 (by omega)), ec, if_pos hb]
      simp only [lt_eq, nI_1]
    · have hQ' : QP g0 m (i + 1) g := ⟨p1, p2, p3, fun w => by rw [f1, if_neg hb]; exact p4 w, p5, by
        rcases p6 with ⟨q1, q2⟩ | ⟨⟨d, d1, d2⟩, q2⟩
        · refine Or.inl ⟨fun d hd => ?_, q2⟩
          by_cases e : d = i
          · subst e; exact Bool.eq_false_iff.mpr hb
          · exact q1 d (by omega)
        · exact Or.inr ⟨⟨d, by omega, d2⟩, q2⟩⟩
      obtain ⟨u2, g2, σ2, r1, r2, r3, r4⟩ := ih (i + 1) k' un g σ (by omega) (by omega) h (by omega) hQ'
      refine ⟨u2, g2, σ2, (it_s ?_).trans r1, r2, by omega, r4⟩
      show M_L_law_L2868 q v5 (nI (tN T)) v8 v9 v10 (nI (gP g0)) v12 (nI m) v14 (nI (cnN (fun i => m.testBit i) i)) (nI i) σ = _
      unfold M_L_law_L2868
      rw [if_neg (fun z => by have := (nI_leI (by omega) (by omega)).mp z; omega), bitm hm (by omega), if_neg hb, if_pos (show (0 : Int32) ≠ 1 by decide), ec, if_neg hb]
      simp only [lt_eq, nI_1]
/-- what was taken so far -/
def QT (g0 : Gs) (k : Nat) (p : Nat → Bool) (i : Nat) (g : Gs) : Prop := gW g = gW g0 ∧ gP g = gP g0 ∧ gO g = k ∧ gK g (gP g0) = k ∧ (∀ w, w < gW g0 → gA g (gP g0) w = 1) ∧ ∀ c, c ≠ gP g0 → (c < i ∧ p c = true ∧ (∀ w, w < gW g0 → gA g c w = 1) ∧ gK g c = k) ∨ (¬ (c < i ∧ p c = true) ∧ (∀ w, gA g c w = gA g0 c w) ∧ gK g c = gK g0 c)
theorem f_loop2933 {k0 b mm : Nat} {p : Nat → Bool} {v5 v8 v9 v10 v12 : Int32} (hmm : mm < 32) (hb5 : b ≤ 5) (hn : tN T ≤ 5) (hP : gP g0 < tN T) (hpP : p (gP g0) = false) (hbit : ∀ i, i < tN T → mm.testBit i = p i) : ∀ (d i k un : Nat) (g : Gs) (σ : Wd), i + d = tN T → d < k → HD T g0 g un σ → un + d < 30 → QT g0 k0 p i g → ∃ un' g' σ', iter (fun s : Int32 × Int32 × Wd => M_L_law_L2933 q v5 (nI (tN T)) v8 v9 v10 (nI (gP g0)) v12 (nI mm) s.1 s.2.1 s.2.2) k (nI (b + cnN p i), nI i, σ) = some (nI (b + cnN p (tN T)), σ') ∧ HD T g0 g' un' σ' ∧ QT g0 k0 p (tN T) g' := by
  intro d
  induction d with
  | zero =>
    intro i k un g σ hi hk h hun hq
    obtain ⟨k', rfl⟩ : ∃ k', k = k' + 1 := ⟨k - 1, by omega⟩
    obtain rfl : i = tN T := by omega
    refine ⟨un, g, σ, it_x ?_, h, hq⟩
    show M_L_law_L2933 q v5 (nI (tN T)) v8 v9 v10 (nI (gP g0)) v12 (nI mm) _ (nI (tN T)) σ = _
    unfold M_L_law_L2933
    rw [if_pos ((nI_leI (by omega) (by omega)).mpr (Nat.le_refl _))]
  | succ d ih =>
    intro i k un g σ hi hk h hun ⟨p1, p2, p3, p4, p5, p6⟩
    obtain ⟨k', rfl⟩ : ∃ k', k = k' + 1 := ⟨k - 1, by omega⟩
    obtain ⟨hs, sl, hl, hA, y1, y2, y3⟩ := id h
    have ec : cnN p (i + 1) = if p i = true then cnN p i + 1 else cnN p i := rfl
    have hcn := cnN_le (P := p) i
    by_cases hb : p i = true
    · have hne : gP g0 ≠ i := fun e => by rw [← e, hpP] at hb; exact Bool.noConfusion hb
      obtain ⟨s, g', σ', σw, al, c1, mx, em, hA', _, _⟩ := x_meet hA (a := gP g0) (b := i) (by omega) hP (by omega) hne
      obtain ⟨c1, c2, c3, c4, c5, c6⟩ := c1
      rw [if_neg (fun z => hne (by rw [z.1, p2])), p4] at c6
      have hKi : gK g i ≤ k0 := by rw [← p3]; exact hA.inv.2.2.1 i (by omega)
      have hQ' : QT g0 k0 p (i + 1) g' := by
        refine ⟨c1.trans p1, c2.trans p2, c6.1.trans p3, (c5 _ hne).trans p4, fun w hw => ?_, fun c hc => ?_⟩
        · rw [c4, if_neg (fun z => hne z.1)]; exact p5 w hw
        · by_cases e : c = i
          · subst e
            exact Or.inl ⟨by omega, hb, fun w hw => by rw [c4, if_pos ⟨rfl, p5 w hw⟩], by omega⟩
          · rcases p6 c hc with ⟨z1, z2, z3, z4⟩ | ⟨z1, z2, z3⟩
            · exact Or.inl ⟨by omega, z2, fun w hw => by rw [c4, if_neg (fun y => e y.1)]; exact z3 w hw, (c5 c e).trans z4⟩
            · exact Or.inr ⟨fun y => z1 ⟨by omega, y.2⟩, fun w => by rw [c4, if_neg (fun y => e y.1)]; exact z2 w, (c5 c e).trans z3⟩
      obtain ⟨u2, g2, σ2, r1, r2, r4⟩ := ih (i + 1) k' (un + 1) g' σ' (by omega) (by omega) (HD.push hA' y1 y2 y3) (by omega) hQ'
      refine ⟨u2, g2, σ2, (it_s ?_).trans r1, r2, r4⟩
      show M_L_law_L2933 q v5 (nI (tN T)) v8 v9 v10 (nI (gP g0)) v12 (nI mm) (nI (b + cnN p i)) (nI i) σ = _
      have hln := (hA.lnW (show i < tN T by omega)).2.2
      have hsl := al.1
      unfold M_L_law_L2933
      rw [if_neg (fun z => by have := (nI_leI (by omega) (by omega)).mp z; omega), bitm hmm (by omega), hbit i (by omega), if_pos hb, if_neg (fun z => z rfl), em, bnd2_some, nI_nat hsl, if_neg (nI_n0 (by omega)), ec, if_pos hb]
      simp only [lt_eq, nI_1]
      rfl
    · have hQ' : QT g0 k0 p (i + 1) g := by
        refine ⟨p1, p2, p3, p4, p5, fun c hc => ?_⟩
        rcases p6 c hc with ⟨z1, z⟩ | ⟨z1, z2, z3⟩
        · exact Or.inl ⟨by omega, z⟩
        · refine Or.inr ⟨fun y => ?_, z2, z3⟩
          by_cases e : c = i
          · rw [e] at y; exact hb y.2
          · exact z1 ⟨by omega, y.2⟩
      obtain ⟨u2, g2, σ2, r1, r2, r4⟩ := ih (i + 1) k' un g σ (by omega) (by omega) h (by omega) hQ'
      refine ⟨u2, g2, σ2, (it_s ?_).trans r1, r2, r4⟩
      show M_L_law_L2933 q v5 (nI (tN T)) v8 v9 v10 (nI (gP g0)) v12 (nI mm) (nI (b + cnN p i)) (nI i) σ = _
      unfold M_L_law_L2933
      rw [if_neg (fun z => by have := (nI_leI (by omega) (by omega)).mp z; omega), bitm hmm (by omega), hbit i (by omega), if_neg hb, if_pos (show (0 : Int32) ≠ 1 by decide), ec, if_neg hb]
      simp only [lt_eq, nI_1]
theorem f_2765 (hL : LQ T q) (h : HD T g0 g0 un σ) (hun : un < 20) (hW : gW g0 < 60) (hC : gC g0 < 1000) : ow (M_L_law_J2765 q σ 1 (nI (tN T)) (nI (gW g0)) (nI (gO g0)) (smN g0 0 (tN T)) (nI (gP g0))) Q1 := by
  obtain ⟨hs, sl, hl, hA, y1, y2, y3⟩ := id h
  have n5 := hA.n5
  have hP := n5.2.2.2.2.2.2
  obtain ⟨m, mm, m1, hm, hoff, hmm, m3, e0, e1, e2⟩ := x_plan hA
  have h32 : 2 ^ tN T ≤ 32 := (two5 ⟨tN T, by omega⟩).2.2.1
  obtain ⟨bt, b5m⟩ := mk_cn n5.2.1 hmm m3
  have bm := b5_le hm
  have bmm := b5_le hmm
  have hz := plan_0 hA m1 hm hmm m3
  have htP : tkP g0 m (gP g0) = false := by unfold tkP; simp
  -- the meetings
  have go : ow (M_L_law_J2860 q σ (nI (tN T)) (nI (gW g0)) (nI (gO g0)) (smN g0 0 (tN T)) (nI (gP g0)) (nI (b5 m + b5 mm)) (nI m) (nI mm) 1) Q1 := by
    obtain ⟨u2, g2, σ2, r1, r2, r3, r4⟩ := f_loop2868 (q := q) (mm := mm) (v5 := 1) (v8 := nI (gW g0)) (v9 := nI (gO g0)) (v10 := smN g0 0 (tN T)) (v12 := nI (b5 m + b5 mm)) (v14 := nI mm) n5.2.2.2.2.1 n5.2.1 hP m1 hm hoff (tN T) 0 FU un g0 σ (by omega) (FU_big (by omega)) h (by omega) ⟨rfl, rfl, fun _ _ _ => rfl, fun w => by
      show _ ↔ decide (gA g0 (gP g0) w = 1) = true
      rw [decide_eq_true_iff], fun _ _ => rfl, Or.inl ⟨fun d hd => absurd hd (by omega), rfl⟩⟩
    rw [← b5_n n5.2.1 m1.1] at r1
    obtain ⟨hs2, sl2, hl2, hA2, y1', y2', y3'⟩ := id r2
    obtain ⟨p1, p2, p3, p4, p5, p6⟩ := r4
    have hall : ∀ w, w < gW g0 → bbN g0 m w (tN T) = true := of_decide_eq_true m1.2.1
    have hPall : ∀ w, w < gW g0 → gA g2 (gP g0) w = 1 := fun w hw => (p4 w).mpr (hall w hw)
    have hOK : gO g2 = if m = 0 then gO g0 else gW g0 := by
      rcases p6 with ⟨q1, q2⟩ | ⟨⟨d, d1, d2⟩, q2⟩
      · have hmz : m = 0 := by
          apply Nat.eq_of_testBit_eq
          intro i
          rw [Nat.zero_testBit]
          by_cases hi : i < tN T
          · exact q1 i hi
          · exact Nat.testBit_lt_two_pow (Nat.lt_of_lt_of_le m1.1 (Nat.pow_le_pow_right (by decide) (by omega)))
        rw [if_pos hmz]
        exact q2
      · have hmz : m ≠ 0 := fun z => by rw [z, Nat.zero_testBit] at d2; exact Bool.noConfusion d2
        rw [if_neg hmz, q2, cnN_eq (Q := fun _ => true) (gW g0) (fun w hw => decide_eq_true (hPall w hw))]
        exact cn_all _
    have hKP : gK g2 (gP g0) = gO g2 := by
      have := hA2.inv.2.2.2.1
      rwa [p2] at this
    have hlnP : ln g2 (gP g0) = gW g0 := by
      have a := lgn_cn hA2.inv (show gP g0 < 5 by omega)
      rw [show ln g2 (gP g0) = lgn g2 (hsP g2 (gP g0)) (gK g2 (gP g0)) from rfl, a, p1, cnN_eq (Q := fun _ => true) (gW g0) (fun w hw => decide_eq_true (hPall w hw))]
      exact cn_all _
    obtain ⟨σc, ec, hAc⟩ := x_copy hA2 (c := gP g0) (k := 1) (by omega) (by decide)
    have ecv : copyV T g2 (gP g0) 1 = nI (gW g0) := by
      unfold copyV
      rw [if_pos hP, if_neg (by decide), if_pos rfl, hlnP]
    obtain ⟨u3, g3, σ3, t1, t2, t4⟩ := f_loop2933 (q := q) (k0 := gO g2) (b := b5 m) (p := tkP g0 m) (v5 := 1) (v8 := nI (gW g0)) (v9 := nI (gO g0)) (v10 := smN g0 0 (tN T)) (v12 := nI (b5 m + b5 mm)) hmm bm n5.2.1 hP htP bt (tN T) 0 FU u2 g2 σc (by omega) (FU_big (by omega)) ⟨_, _, _, hAc, y1', y2', y3'⟩ (by omega) ⟨p1, p2, rfl, hKP, hPall, fun c hc => Or.inr ⟨fun z => absurd z.1 (by omega), fun w => p3 c w hc, p5 c hc⟩⟩
    rw [← b5m, show b5 m + cnN (tkP g0 m) 0 = b5 m from Nat.add_zero _] at t1
    have t1 : iter (fun s : Int32 × Int32 × Wd => M_L_law_L2933 q 1 (nI (tN T)) (nI (gW g0)) (nI (gO g0)) (smN g0 0 (tN T)) (nI (gP g0)) (nI (b5 m + b5 mm)) (nI mm) s.1 s.2.1 s.2.2) FU (nI (b5 m), (0 : Int32), σc) = some (nI (b5 m + b5 mm), σ3) := t1
    obtain ⟨hs3, sl3, hl3, hA3, z1, z2, z3⟩ := id t2
    obtain ⟨w1, w2, w3, w4, w5, w6⟩ := t4
    have key : ∀ c, c < tN T → (∀ w, w < gW g3 → gA g3 c w = 1) ∧ gK g3 c = gO g2 := fun c hc => by
      by_cases e : c = gP g0
      · rw [e]; exact ⟨fun w hw => w5 w (by omega), w4⟩
      · rcases w6 c e with ⟨_, _, x3, x4⟩ | ⟨x1, x2, x3⟩
        · exact ⟨fun w hw => x3 w (by omega), x4⟩
        · have hf : tkP g0 m c = false := by
            cases hq : tkP g0 m c with
            | false => rfl
            | true => exact absurd ⟨hc, hq⟩ x1
          have hfu : fuB g0 (if m = 0 then gO g0 else gW g0) c = true := by
            unfold tkP at hf
            rw [decide_eq_false e, Bool.false_or] at hf
            cases hq : fuB g0 (if m = 0 then gO g0 else gW g0) c with
            | true => rfl
            | false => rw [hq] at hf; exact absurd hf (by decide)
          unfold fuB at hfu
          rw [Bool.and_eq_true, decide_eq_true_eq, decide_eq_true_eq] at hfu
          exact ⟨fun w hw => by rw [x2]; exact hfu.1 w (by omega), by rw [x3, hfu.2, hOK]⟩
    have hallB : allB g3 (tN T) = true := allB_of hA3.inv (fun c w hc hw => (key c hc).1 w hw) (fun c hc => (key c hc).2)
    have halN : allN T g3 = gW g0 := by
      have e : ∀ w, w < gW g3 → ∀ k, k ≤ tN T → alB g3 w k = true := fun w hw k => by
        induction k with
        | zero => intro _; rfl
        | succ k ih =>
          intro hk
          show (alB g3 w k && decide (gA g3 k w = 1)) = true
          rw [ih (by omega), (key k (by omega)).1 w hw]
          rfl
      unfold allN
      rw [cnN_eq (Q := fun _ => true) (gW g3) (fun w hw => e w hw (tN T) (Nat.le_refl _)), cn_all, w1]
    obtain ⟨m', mm', m1', hm', _, hmm', m3', e0', _, _⟩ := x_plan hA3
    have hz3 := (plan_0 hA3 m1' hm' hmm' m3').mpr hallB
    obtain ⟨σr, er, hr'⟩ := t2.restore
    unfold M_L_law_J2860
    rw [show ((0 : Int32), (0 : Int32), σ) = (nI (cnN (fun i => m.testBit i) 0), nI 0, σ) from rfl, r1, bnd1_some]
    show ow (M_L_law_J2906 q σ2 1 (nI (tN T)) (nI (gW g0)) (nI (gO g0)) (smN g0 0 (tN T)) (nI (gP g0)) (nI (b5 m + b5 mm)) (nI mm) (nI (b5 m))) Q1
    unfold M_L_law_J2906 M_L_law_J2928
    rw [if_neg n10, show M_X8_copy σ2 (nI (gP g0)) 1 = _ from ec, bnd2_some, ecv, if_neg (fun z => z rfl), t1, bnd1_some]
    show ow (M_L_law_J2971 q σ3 1 (nI (tN T)) (nI (gW g0)) (nI (gO g0)) (smN g0 0 (tN T)) (nI (b5 m + b5 mm)) (nI (b5 m + b5 mm))) Q1
    unfold M_L_law_J2971
    rw [if_neg n10, if_neg (fun z => z rfl), x_count10 hA3, bnd2_some, hallB, if_neg (show ¬ boI true ≠ 1 from fun z => z rfl), x_count15 hA3, bnd2_some, halN, if_neg (fun z => z rfl), e0', bnd1_some, hz3, if_neg (show ¬ nI 0 ≠ 0 by decide), er, bnd2_some, if_neg n10]
    exact f_3025 hL hr' (by omega) hW hC
  have j52 : ∀ t0, t0 = (if b5 m + b5 mm = 0 then (1 : Int32) else 0) → ow (M_L_law_J2837 q σ (nI (tN T)) (nI (gW g0)) (nI (gO g0)) (smN g0 0 (tN T)) (nI (gP g0)) (nI (b5 m + b5 mm)) (nI m) (nI mm) t0) Q1 := fun t0 ht => by
    unfold M_L_law_J2837
    rw [x_count10 hA, bnd2_some]
    have k : ∀ t1, t1 = t0 → ow (M_L_law_J2852 q σ (nI (tN T)) (nI (gW g0)) (nI (gO g0)) (smN g0 0 (tN T)) (nI (gP g0)) (nI (b5 m + b5 mm)) (nI m) (nI mm) t1 t0) Q1 := fun t1 ht1 => by
      unfold M_L_law_J2852
      rw [ht1, if_neg (fun z => z rfl)]
      exact go
    cases hall : allB g0 (tN T)
    · rw [if_pos (show boI false ≠ 1 by decide)]
      refine k 0 ?_
      rw [ht, if_neg (fun z => by have := hz.mp z; rw [hall] at this; exact absurd this (by decide))]
    · rw [if_neg (fun z => z rfl)]
      refine k 1 ?_
      rw [ht, if_pos (hz.mpr hall)]
  unfold M_L_law_J2765
  rw [e0, bnd1_some, e1, bnd1_some, e2, bnd1_some, if_neg n10, c_b5 hm, bnd1_some, c_b5 hmm, bnd1_some, nI_add, if_neg (fun z => z rfl), bitm hm (by omega), hoff, if_neg (show ¬ (if false = true then (1 : Int32) else 0) ≠ 0 by decide), bitm hmm (by omega), bt _ hP, htP, if_neg (show ¬ (if false = true then (1 : Int32) else 0) ≠ 0 by decide)]
  by_cases hz0 : b5 m + b5 mm = 0
  · rw [if_neg (show ¬ nI (b5 m + b5 mm) ≠ 0 from fun z => z (by rw [hz0]; rfl))]
    exact j52 1 (by rw [if_pos hz0])
  · rw [if_pos (show nI (b5 m + b5 mm) ≠ 0 from fun z => hz0 ((nI_eq (b := 0) (by omega) (by decide)).mp z))]
    exact j52 0 (by rw [if_neg hz0])
end PL
