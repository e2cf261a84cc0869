/-! plan: the meetings, the takers -/
def QP (g : Gs) (m i : Nat) (g' : Gs) : Prop := gW g' = gW g ∧ gP g' = gP g ∧ (∀ c w, c ≠ gP g → gA g' c w = gA g c w) ∧ (∀ w, gA g' (gP g) w = 1 ↔ bbN g m w i = true) ∧ (∀ c, c ≠ gP g → gK g' c = gK g c) ∧ (((∀ d, d < i → m.testBit d = false) ∧ gO g' = gO g) ∨ ((∃ d, d < i ∧ m.testBit d = true) ∧ gO g' = cnN (hsP g' (gP g)) (gW g)))
theorem lst_news {g : Gs} {n m i : Nat} (hn : n ≤ 5) (h32 : 2 ^ n ≤ 32) (h : Lst (brB g n) (2 ^ n) m) (hi : i < n) (hb : m.testBit i = true) (hz : ∀ w, w < gW g → gA g i w = 1 → bbN g m w i = true) : False := by
  have hm : m < 32 := Nat.lt_of_lt_of_le h.1 h32
  obtain ⟨q1, q2, q3, q4⟩ := cl_ok ⟨m, hm⟩ ⟨i, by omega⟩
  have q1 : cl m i ≤ m := q1
  have q2 : m.testBit i = true → b5 (cl m i) < b5 m := q2
  have q4 : ∀ d : Fin 5, (cl m i).testBit d.val = (m.testBit d.val && !decide (d.val = i)) := q4
  have up : ∀ c, c < 5 → c ≠ i → m.testBit c = true → (cl m i).testBit c = true := fun c hc hne hm2 => by
    have := q4 ⟨c, hc⟩
    rw [show ((⟨c, hc⟩ : Fin 5).val) = c from rfl] at this
    rw [this, hm2, decide_eq_false hne]
    rfl
  have z1 := q2 hb
  have z2 := h.1
  have br : brB g n (cl m i) = true := by
    have hBr : ∀ w, w < gW g → bbN g m w n = true := of_decide_eq_true h.2.1
    refine decide_eq_true (fun w hw => ?_)
    rcases (bbN_iff _).mp (hBr w hw) with a | ⟨c, c1, c2, c3⟩
    · exact (bbN_iff _).mpr (Or.inl a)
    · by_cases e : c = i
      · subst e
        rcases (bbN_iff _).mp (hz w hw c3) with a | ⟨d, d1, d2, d3⟩
        · exact (bbN_iff _).mpr (Or.inl a)
        · exact (bbN_iff _).mpr (Or.inr ⟨d, by omega, up d (by omega) (by omega) d2, d3⟩)
      · exact (bbN_iff _).mpr (Or.inr ⟨c, c1, up c (by omega) e c2, c3⟩)
  rcases h.2.2 (cl m i) (by omega) br with z | ⟨z, _⟩
  · omega
  · omega
theorem mkN_same {p q : Nat → Bool} : ∀ n, (∀ c, c < n → p c = q c) → mkN p n = mkN q n := by
  intro n
  induction n with
  | zero => intro _; rfl
  | succ n ih =>
    intro h
    show (if p n = true then mkN p n ||| _ else mkN p n) = (if q n = true then mkN q n ||| _ else mkN q n)
    rw [ih (fun c hc => h c (by omega)), h n (by omega)]
theorem mk_t : ∀ m : Fin 32, ∀ k : Fin 5, m.val < 2 ^ k.val → nI m.val ||| ((1 : Int32) <<< (nI k.val &&& 31)) = nI (m.val + 2 ^ k.val) ∧ m.val + 2 ^ k.val < 2 ^ (k.val + 1) ∧ 2 ^ (k.val + 1) ≤ 32 := by decide +kernel
theorem mk_nat {p : Nat → Bool} : ∀ n, n ≤ 5 → ∃ m, m < 2 ^ n ∧ m < 32 ∧ mkN p n = nI m := by
  intro n
  induction n with
  | zero => intro _; exact ⟨0, by decide, by decide, rfl⟩
  | succ n ih =>
    intro hn
    obtain ⟨m, m1, m2, m3⟩ := ih (by omega)
    obtain ⟨a1, a2, a3⟩ := mk_t ⟨m, m2⟩ ⟨n, by omega⟩ m1
    have a1 : nI m ||| ((1 : Int32) <<< (nI n &&& 31)) = nI (m + 2 ^ n) := a1
    have a2 : m + 2 ^ n < 2 ^ (n + 1) := a2
    have a3 : 2 ^ (n + 1) ≤ 32 := a3
    show ∃ m, _ ∧ _ ∧ (if p n = true then mkN p n ||| ((1 : Int32) <<< (nI n &&& 31)) else mkN p n) = nI m
    rw [m3]
    by_cases hp : p n = true
    · rw [if_pos hp, a1]
      exact ⟨_, a2, by omega, rfl⟩
    · rw [if_neg hp]
      exact ⟨m, by omega, m2, rfl⟩
def al3 (g : Gs) (a b : Nat) : Bool := decide (lkN g a b (gW g) = 0) && (decide (lkN g b a (gW g) = 0) && decide (gK g a = gK g b))
section PT
variable {T : Td} {t l : Nat} {g : Gs} {σ τ : Wd}
theorem m_alike3 (h : Qd T t l g σ τ) {a c : Nat} (ha : a < 5) (hc : c < 5) : M_X9_areAlike τ (nI a) (nI c) = some (boI (al3 g a c)) := by
  obtain ⟨hW, hO, hP, hn⟩ := q_bd h
  have k0 := q_K h ha
  have kc := q_K h hc
  have e1 := lkN_le (g := g) (a := a) (b := c) (gW g)
  have e2 := lkN_le (g := g) (a := c) (b := a) (gW g)
  have z0 : ∀ {n : Nat}, n ≤ 60 → (nI n ≠ 0 ↔ n ≠ 0) := fun {n} hn => nI_ne (a := n) (b := 0) (by omega) (by decide)
  unfold M_X9_areAlike
  rw [m_lacks h ha hc, bnd1_some, m_lacks h hc ha, bnd1_some, (q_known h ha).2, bnd1_some, (q_known h hc).2, bnd1_some]
  unfold al3
  by_cases a1 : lkN g a c (gW g) = 0
  · rw [if_neg (fun z => (z0 (by omega)).mp z a1), decide_eq_true a1, Bool.true_and]
    by_cases a2 : lkN g c a (gW g) = 0
    · rw [if_neg (fun z => (z0 (by omega)).mp z a2), decide_eq_true a2, Bool.true_and]
      by_cases a3 : gK g a = gK g c
      · rw [if_neg (fun z => z (by rw [a3])), decide_eq_true a3]
        rfl
      · rw [if_pos (show nI (gK g a) ≠ nI (gK g c) from fun z => a3 ((nI_eq (by omega) (by omega)).mp z)), decide_eq_false a3]
        rfl
    · rw [if_pos ((z0 (by omega)).mpr a2), decide_eq_false a2]
      rfl
  · rw [if_pos ((z0 (by omega)).mpr a1), decide_eq_false a1]
    rfl
theorem m_gives (h : Qd T t l g σ τ) {m : Nat} {v1 : Int32} (hm : Lst (brB g (tN T)) (2 ^ tN T) m) : ∃ g' σ' τ', iter (fun s : Int32 × Wd => M_X9_plan_L30 v1 (nI m) (nI (gP g)) s.1 s.2) FU ((0 : Int32), τ) = some τ' ∧ Mid T g σ τ g' σ' τ' ∧ QP g m (tN T) g' := by
  obtain ⟨hW, hO, hP, hn⟩ := q_bd h
  have h32 : 2 ^ tN T ≤ 32 := (two5 ⟨tN T, by omega⟩).2.2.1
  have hm32 : m < 32 := Nat.lt_of_lt_of_le hm.1 h32
  have hoff := lst_off hn (by omega) hm h32
  obtain ⟨x, h1, h2⟩ := ow_for (body := fun s : Int32 × Wd => M_X9_plan_L30 v1 (nI m) (nI (gP g)) s.1 s.2) (Q := fun x => ∃ g' σ', Mid T g σ τ g' σ' x ∧ QP g m (tN T) g') (fun i s => ∃ g' σ' τ', s = (nI i, τ') ∧ Mid T g σ τ g' σ' τ' ∧ QP g m i g') (tN T) (FU_big (by omega)) (fun i s hi ⟨g', σ', τ', hs, hM, p1, p2, p3, p4, p5, p6⟩ => by
    subst hs
    show ow (M_X9_plan_L30 v1 (nI m) (nI (gP g)) (nI i) τ') _
    unfold M_X9_plan_L30
    obtain ⟨k1, k2, k3⟩ := q_18 (hM.qd h.1)
    have f1 : ∀ w, bbN g m w (i + 1) = if m.testBit i = true then (bbN g m w i || decide (gA g i w = 1)) else bbN g m w i := fun w => rfl
    rw [k1, chk_pos ((ib_nI (by omega)).mpr k2), ix_nI (by omega), k3, if_neg (fun z => by have := (nI_leI (by omega) (by omega)).mp z; omega), bitm hm32 (by omega), nI_1]
    simp only [lt_eq]
    by_cases hb : m.testBit i = true
    · have hne : i ≠ gP g := fun e => by rw [e, hoff] at hb; exact Bool.noConfusion hb
      obtain ⟨s, g2, σ2, τ2, b1, b2, b3, b4, c1, c2, c3, c4, c5, c6⟩ := hM.meet h.1 hi hP hne
      rw [if_pos hb, if_neg (fun z => z rfl), b3, bnd2_some]
      have hnz : lkN g' i (gP g) (gW g') ≠ 0 := fun z => lst_news hn h32 hm hi hb (fun w hw hA => (p4 w).mp ((lkN_0 _).mp z w (by rw [p1]; exact hw) ((p3 i w hne).trans hA)))
      rw [if_pos ⟨p2.symm, hnz⟩, p1] at c6
      refine ow_some.mpr ⟨g2, σ2, τ2, rfl, b4, c1.trans p1, c2.trans p2, fun c w hc => ?_, fun w => ?_, fun c hc => (c5 c hc).trans (p5 c hc), Or.inr ⟨⟨i, by omega, hb⟩, c6.1.trans c6.2⟩⟩
      · rw [c4, if_neg (fun z => hc z.1)]
        exact p3 c w hc
      · rw [c4, f1, if_pos hb, Bool.or_eq_true, decide_eq_true_iff, p3 i w hne]
        by_cases hA : gA g i w = 1
        · rw [if_pos ⟨rfl, hA⟩]
          exact ⟨fun _ => Or.inr hA, fun _ => rfl⟩
        · rw [if_neg (fun z => hA z.2), p4]
          exact ⟨fun z => Or.inl z, fun z => z.elim id (fun q => absurd q hA)⟩
    · rw [if_neg hb, if_pos (show (0 : Int32) ≠ 1 by decide)]
      refine ow_some.mpr ⟨g', σ', τ', rfl, hM, p1, p2, p3, fun w => by rw [f1, if_neg hb]; exact p4 w, p5, ?_⟩
      rcases p6 with ⟨q1, q2⟩ | ⟨⟨d, d1, d2⟩, q2⟩
      · refine Or.inl ⟨fun d hd => ?_, q2⟩
        by_cases e : d = i
        · subst e; exact Bool.eq_false_iff.mpr hb
        · exact q1 d (by omega)
      · exact Or.inr ⟨⟨d, by omega, d2⟩, q2⟩) (fun s ⟨g', σ', τ', hs, hM, hq⟩ => by
    subst hs
    show ow (M_X9_plan_L30 v1 (nI m) (nI (gP g)) (nI (tN T)) τ') _
    unfold M_X9_plan_L30
    obtain ⟨k1, k2, k3⟩ := q_18 (hM.qd h.1)
    rw [k1, chk_pos ((ib_nI (by omega)).mpr k2), ix_nI (by omega), k3, if_pos ((nI_leI (by omega) (by omega)).mpr (Nat.le_refl _))]
    exact ow_some.mpr ⟨g', σ', hM, hq⟩) 0 ((0 : Int32), τ) (Nat.zero_le _) ⟨g, σ, τ, rfl, h.mid, rfl, rfl, fun _ _ _ => rfl, fun w => by
      show _ ↔ decide (gA g (gP g) w = 1) = true
      rw [decide_eq_true_iff], fun _ _ => rfl, Or.inl ⟨fun d hd => by omega, rfl⟩⟩
  obtain ⟨g', σ', h3, h4⟩ := h2
  exact ⟨g', σ', x, h1, h3, h4⟩
theorem m_takers {v1 v2 v3 : Int32} {P : Nat} (h : Qd T t l g σ τ) (hP5 : P < 5) (h3 : v3 = nI P) : iter (fun s : Int32 × Int32 => M_X9_plan_L74 τ v1 v2 v3 s.1 s.2) FU ((0 : Int32), (0 : Int32)) = some (mkN (fun c => !al3 g c P) (tN T)) := by
  subst h3
  obtain ⟨hW, hO, hP, hn⟩ := q_bd h
  obtain ⟨k1, k2, k3⟩ := q_18 h
  obtain ⟨x, h1, h2⟩ := ow_for (body := fun s : Int32 × Int32 => M_X9_plan_L74 τ v1 v2 (nI P) s.1 s.2) (Q := fun x => x = mkN (fun c => !al3 g c P) (tN T)) (fun i s => s = (mkN (fun c => !al3 g c P) i, nI i)) (tN T) (FU_big (by omega)) (fun i s hi hs => by
    subst hs
    show ow (M_X9_plan_L74 τ v1 v2 (nI P) (mkN (fun c => !al3 g c P) i) (nI i)) _
    unfold M_X9_plan_L74
    have e1 : mkN (fun c => !al3 g c P) (i + 1) = if (!al3 g i P) = true then mkN (fun c => !al3 g c P) i ||| ((1 : Int32) <<< (nI i &&& 31)) else mkN (fun c => !al3 g c P) i := rfl
    rw [k1, chk_pos ((ib_nI (by omega)).mpr k2), ix_nI (by omega), k3, if_neg (fun z => by have := (nI_leI (by omega) (by omega)).mp z; omega), m_alike3 h (by omega) hP5, bnd1_some, nI_1]
    simp only [lt_eq]
    by_cases hA : al3 g i P = true
    · rw [if_pos ((boI_ne _).mpr hA)]
      refine ow_some.mpr ?_
      show _ = _
      rw [e1, if_neg (by rw [hA]; exact Bool.noConfusion)]
    · rw [if_neg (fun z => hA ((boI_ne _).mp z))]
      refine ow_some.mpr ?_
      show _ = _
      rw [e1, if_pos (by rw [Bool.eq_false_iff.mpr hA]; rfl)]) (fun s hs => by
    subst hs
    show ow (M_X9_plan_L74 τ v1 v2 (nI P) (mkN (fun c => !al3 g c P) (tN T)) (nI (tN T))) _
    unfold M_X9_plan_L74
    rw [k1, chk_pos ((ib_nI (by omega)).mpr k2), ix_nI (by omega), k3, if_pos ((nI_leI (by omega) (by omega)).mpr (Nat.le_refl _))]
    exact ow_some.mpr rfl) 0 ((0 : Int32), (0 : Int32)) (Nat.zero_le _) rfl
  exact h1.trans (congrArg some h2)
/-- a copy that has all and knows k -/
def fuB (g : Gs) (k c : Nat) : Bool := decide (∀ w, w < gW g → gA g c w = 1) && decide (gK g c = k)
theorem c_takers (h : Qd T t l g σ τ) {m : Nat} (hm : m < 32) : M_X1_planTakers σ (nI m) = some (mkN (fun c => !(decide (c = gP g) || fuB g (if m = 0 then gO g else gW g) c)) (tN T)) := by
  obtain ⟨hW, hO, hP, hn⟩ := q_bd h
  obtain ⟨y, y1, y2⟩ := c_any h
  have go : M_X1_planTakers σ (nI m) = M_X1_planTakers_J20 σ y (nI (if m = 0 then gO g else gW g)) := by
    unfold M_X1_planTakers
    rw [y1, bnd1_some]
    by_cases h0 : m = 0
    · subst h0
      rw [if_neg (show ¬ nI 0 ≠ 0 by decide), if_pos rfl, q_ordered h, bnd1_some]
    · rw [if_pos (nI_ne0 (by omega) (by omega)), if_neg h0, q_writes h, bnd1_some]
  rw [go]
  have hk : (if m = 0 then gO g else gW g) ≤ 60 := by
    by_cases h0 : m = 0
    · rw [if_pos h0]; omega
    · rw [if_neg h0]; omega
  generalize (if m = 0 then gO g else gW g) = k at hk
  unfold M_X1_planTakers_J20
  have st : ∀ i, i < tN T → ∀ v, M_X1_planTakers_L28 σ y (nI k) v (nI i) = some (.inl (if (!(decide (i = gP g) || fuB g k i)) = true then v ||| ((1 : Int32) <<< (nI i &&& 31)) else v, nI (i + 1))) := fun i hi v => by
    unfold M_X1_planTakers_L28
    have hK := q_K h (c := i) (by omega)
    have j64 : ∀ t0 : Int32, M_X1_planTakers_J64 σ y (nI k) v (nI i) t0 = some (.inl (if i = gP g then v else if t0 = 0 then v else v ||| ((1 : Int32) <<< (nI i &&& 31)), nI (i + 1))) := fun t0 => by
      unfold M_X1_planTakers_J64
      rw [show M_X1_primary σ = some (nI (gP g)) from c_primary (h.2.1.1.2.1), bnd1_some]
      simp only [lt_eq]
      rw [nI_1]
      by_cases q : i = gP g
      · rw [if_pos (by rw [q]), if_pos q]
      · rw [if_neg (fun z => q ((nI_eq (by omega) (by omega)).mp z)), if_neg q]
        by_cases q0 : t0 = 0
        · rw [if_pos q0, if_pos q0]
        · rw [if_neg q0, if_neg q0]
    have hx : gL σ 29 (6 + i) = y ↔ ∀ w, w < gW g → gA g i w = 1 := by
      constructor
      · intro e w hw
        have := q_set h (c := i) (w := w) (by omega) (by omega)
        rw [e, y2 w (by omega), decide_eq_true hw] at this
        exact of_decide_eq_true this.symm
      · intro z
        rw [← Int64.toBitVec_inj]
        apply BitVec.eq_of_getLsbD_eq
        intro w hw
        rw [q_set h (by omega) hw, y2 w hw]
        congr 1
        exact propext ⟨fun q => (h.2.2.2.2.1.2.2.2.2.2.1 i w q).1, fun q => z w q⟩
    rw [q_copies h, bnd1_some, if_neg (fun z => by have := (nI_leI (by omega) (by omega)).mp z; omega), c_setOf (by omega), bnd1_some]
    unfold M_X1_planTakers_J59
    rw [j64, (q_known h (c := i) (by omega)).1, bnd1_some, j64]
    unfold fuB
    by_cases q : i = gP g
    · rw [decide_eq_true q, Bool.true_or, if_pos q, if_pos q, if_neg (show ¬ (!true) = true from Bool.noConfusion)]
      simp only [ite_self]
    · rw [decide_eq_false q, Bool.false_or, if_neg q, if_neg q, if_neg n10, if_pos rfl]
      by_cases e : gL σ 29 (6 + i) = y
      · rw [if_neg (fun z => z ((lg_cmp_eq _ _).mpr e)), decide_eq_true (hx.mp e), Bool.true_and]
        by_cases e2 : gK g i = k
        · rw [if_pos (by rw [e2]), decide_eq_true e2]
          rfl
        · rw [if_neg (fun z => e2 ((nI_eq (by omega) (by omega)).mp z)), decide_eq_false e2]
          rfl
      · rw [if_pos (fun z => e ((lg_cmp_eq _ _).mp z)), decide_eq_false (fun z => e (hx.mpr z)), Bool.false_and]
        rfl
  obtain ⟨x, h1, h2⟩ := ow_for (body := fun s : Int32 × Int32 => M_X1_planTakers_L28 σ y (nI k) s.1 s.2) (Q := fun x => x = mkN (fun c => !(decide (c = gP g) || fuB g k c)) (tN T)) (fun i s => s = (mkN (fun c => !(decide (c = gP g) || fuB g k c)) i, nI i)) (tN T) (FU_big (by omega)) (fun i s hi hs => by
    subst hs
    show ow (M_X1_planTakers_L28 σ y (nI k) (mkN (fun c => !(decide (c = gP g) || fuB g k c)) i) (nI i)) _
    rw [st i hi]
    exact ow_some.mpr rfl) (fun s hs => by
    subst hs
    show ow (M_X1_planTakers_L28 σ y (nI k) (mkN (fun c => !(decide (c = gP g) || fuB g k c)) (tN T)) (nI (tN T))) _
    unfold M_X1_planTakers_L28
    rw [q_copies h, bnd1_some, if_pos ((nI_leI (by omega) (by omega)).mpr (Nat.le_refl _))]
    exact ow_some.mpr rfl) 0 ((0 : Int32), (0 : Int32)) (Nat.zero_le _) rfl
  rw [show iter (fun s : Int32 × Int32 => M_X1_planTakers_L28 σ y (nI k) s.1 s.2) FU ((0 : Int32), (0 : Int32)) = some x from h1, bnd1_some]
  exact congrArg some h2
end PT
theorem cn_all : ∀ k, cnN (fun _ => true) k = k := by
  intro k
  induction k with
  | zero => rfl
  | succ k ih =>
    show (if true = true then cnN (fun _ => true) k + 1 else cnN (fun _ => true) k) = k + 1
    rw [if_pos rfl, ih]
theorem al3_fu {g g' : Gs} {c k : Nat} (hW : gW g' = gW g) (hA : ∀ c w, c ≠ gP g → gA g' c w = gA g c w) (hPall : ∀ w, w < gW g → gA g' (gP g) w = 1) (hKP : gK g' (gP g) = k) (hK : ∀ c, c ≠ gP g → gK g' c = gK g c) : al3 g' c (gP g) = (decide (c = gP g) || fuB g k c) := by
  apply Bool.eq_iff_iff.mpr
  unfold al3 fuB
  rw [Bool.and_eq_true, Bool.and_eq_true, Bool.or_eq_true, Bool.and_eq_true, decide_eq_true_iff, decide_eq_true_iff, decide_eq_true_iff, decide_eq_true_iff, decide_eq_true_iff, decide_eq_true_iff, lkN_0, lkN_0, hW, hKP]
  constructor
  · rintro ⟨_, a2, a3⟩
    by_cases e : c = gP g
    · exact Or.inl e
    · exact Or.inr ⟨fun w hw => (hA c w e).symm.trans (a2 w hw (hPall w hw)), (hK c e).symm.trans a3⟩
  · rintro (e | ⟨a1, a2⟩)
    · subst e
      exact ⟨fun w _ z => z, fun w _ z => z, hKP⟩
    · by_cases e : c = gP g
      · subst e
        exact ⟨fun w _ z => z, fun w _ z => z, hKP⟩
      · exact ⟨fun w hw _ => hPall w hw, fun w hw _ => (hA c w e).trans (a1 w hw), (hK c e).trans a2⟩
theorem st_34 : Sp_34 Rel := by
  intro σ τ h a
  unfold M_X8_plan M_X9_plan
  rcases bd_cases (n := 3) a (by decide) with ⟨k, hk, rfl⟩ | hd
  · obtain ⟨T, t, l, g, τ1, hc, hK, hR, hQ, hT⟩ := ask_start h
    obtain ⟨hW, hO, hP, hn⟩ := q_bd hQ
    have h32 : 2 ^ tN T ≤ 32 := (two5 ⟨tN T, by omega⟩).2.2.1
    have hI := hQ.2.2.2.2.1
    obtain ⟨m, m1, m2⟩ := c_givers hQ
    obtain ⟨m', n1, n2⟩ := m_bringers hQ
    obtain rfl : m' = m := lst_u hn (by omega) h32 m1 n1
    have hm : m' < 32 := Nat.lt_of_lt_of_le m1.1 h32
    obtain ⟨g', σ', τ', p1, p2, p3⟩ := m_gives (v1 := nI k) hQ m1
    have hQ' := p2.qd hQ.1
    have e2 : gI τ1 26 (ix (2 : Int32)) = nI (gP g) := hQ.2.2.2.1.1.2.2.1
    have tk := m_takers (v1 := nI k) (v2 := nI m') (v3 := nI (gP g)) (P := gP g) hQ' (by omega) rfl
    have ck := c_takers hQ hm
    have hall : ∀ w, w < gW g → bbN g m' w (tN T) = true := of_decide_eq_true m1.2.1
    have hPall : ∀ w, w < gW g → gA g' (gP g) w = 1 := fun w hw => (p3.2.2.2.1 w).mpr (hall w hw)
    have hoff := lst_off hn (by omega) m1 h32
    have hOK : gO g' = if m' = 0 then gO g else gW g := by
      rcases p3.2.2.2.2.2 with ⟨q1, q2⟩ | ⟨⟨d, d1, d2⟩, q2⟩
      · have hz : m' = 0 := by
          apply Nat.eq_of_testBit_eq
          intro i
          rw [Nat.zero_testBit]
          by_cases hi : i < tN T
          · exact q1 i hi
          · exact Nat.testBit_lt_two_pow (Nat.lt_of_lt_of_le m1.1 (Nat.pow_le_pow_right (by decide) (by omega)))
        rw [if_pos hz]
        exact q2
      · have hz : m' ≠ 0 := fun z => by rw [z, Nat.zero_testBit] at d2; exact Bool.noConfusion d2
        rw [if_neg hz, q2, cnN_eq (Q := fun _ => true) (gW g) (fun w hw => decide_eq_true (hPall w hw))]
        exact cn_all _
    have hKP : gK g' (gP g) = if m' = 0 then gO g else gW g := by
      rw [← hOK]
      have := hQ'.2.2.2.2.1.2.2.2.1
      rwa [p3.2.1] at this
    have hmk : mkN (fun c => !al3 g' c (gP g)) (tN T) = mkN (fun c => !(decide (c = gP g) || fuB g (if m' = 0 then gO g else gW g) c)) (tN T) := by
      exact mkN_same _ (fun c hc => congrArg not (al3_fu p3.1 p3.2.2.1 hPall hKP p3.2.2.2.2.1))
    rw [hmk] at tk
    have fin : Rel σ τ' := Rel_KM p2.2.1 hR
    obtain ⟨mm, _, mm2, mm3⟩ := mk_nat (p := fun c => !(decide (c = gP g) || fuB g (if m' = 0 then gO g else gW g) c)) (tN T) hn
    rw [mm3] at tk ck
    rw [if_neg (nI_n0 (by omega)), if_pos (show nI k ≤ 2 from (nI_leI (b := 2) (by omega) (by decide)).mpr (by omega)), m2, bnd1_some, ck, bnd1_some, show M_X9_in (nI k) 0 2 = some 1 from m_inl_t (c := k) (m := 2) (by omega) (by decide), bnd1_some, if_pos n01, hc, bnd1_some, n2, bnd1_some, chk_pos (by decide), e2]
    simp only [lt_eq]
    rw [show iter (fun s : Int32 × Wd => M_X9_plan_L30 (nI k) (nI m') (nI (gP g)) s.1 s.2) FU ((0 : Int32), τ1) = some τ' from p1, bnd1_some]
    simp only [un1]
    rw [show iter (fun s : Int32 × Int32 => M_X9_plan_L74 τ' (nI k) (nI m') (nI (gP g)) s.1 s.2) FU ((0 : Int32), (0 : Int32)) = some (nI mm) from tk, bnd1_some, c_b5 hm, bnd1_some, c_b5 mm2, bnd1_some]
    simp only [un1]
    rw [m_b5 hm, bnd1_some, m_b5 mm2, bnd1_some]
    by_cases z0 : nI k ≠ 0
    · rw [if_pos z0, if_pos z0]
      by_cases z1 : nI k ≠ 1
      · rw [if_pos z1, if_pos z1]; exact ⟨_, _, rfl, rfl, fin⟩
      · rw [if_neg z1, if_neg z1]; exact ⟨_, _, rfl, rfl, fin⟩
    · rw [if_neg z0, if_neg z0]
      exact ⟨_, _, rfl, rfl, fin⟩
  · rw [show M_X9_in a 0 2 = some 0 from m_inl_f (m := 2) hd (by decide), bnd1_some, if_neg z00]
    by_cases h1 : a < 0
    · rw [if_pos h1]
      exact ⟨_, _, rfl, rfl, h⟩
    · rw [if_neg h1, if_neg (show ¬ a ≤ 2 from nI_le_not (m := 2) (nI_lt0 hd h1) (by decide))]
      exact ⟨_, _, rfl, rfl, h⟩
