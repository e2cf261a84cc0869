/-! logs: sorted behind what is known; merged logs -/
theorem ltr_tot {g : Gs} {n m a b : Nat} (hI : Inv n m g) (ha : a < gW g) (hb : b < gW g) (hab : a ≠ b) : ltr g a b ∨ ltr g b a := by
  have h := hI.2.2.2.2.2.2.2.2.2.2.1
  show (gS g b < gS g a ∨ (gS g a = gS g b ∧ gN g b < gN g a)) ∨ (gS g a < gS g b ∨ (gS g b = gS g a ∧ gN g a < gN g b))
  by_cases e : gN g a = gN g b
  · rcases Nat.lt_or_gt_of_ne hab with q | q
    · have := h a b q hb e
      omega
    · have := h b a q ha e.symm
      omega
  · omega
theorem ltr_trans {g : Gs} {a b c : Nat} (h1 : ltr g a b) (h2 : ltr g b c) : ltr g a c := by
  have h1 : gS g b < gS g a ∨ (gS g a = gS g b ∧ gN g b < gN g a) := h1
  have h2 : gS g c < gS g b ∨ (gS g b = gS g c ∧ gN g c < gN g b) := h2
  show gS g c < gS g a ∨ (gS g a = gS g c ∧ gN g c < gN g a)
  omega
theorem ltr_asym {g : Gs} {a b : Nat} (h1 : ltr g a b) (h2 : ltr g b a) : False := by
  have h1 : gS g b < gS g a ∨ (gS g a = gS g b ∧ gN g b < gN g a) := h1
  have h2 : gS g a < gS g b ∨ (gS g b = gS g a ∧ gN g a < gN g b) := h2
  omega
theorem poN_up {g : Gs} {f : Nat → Nat} {k w : Nat} : ∀ n, ∀ q, poN g f k w n ≤ q → q < n → ltr g (f q) w := by
  intro n
  induction n with
  | zero => intro q _ hq; omega
  | succ p ih =>
    intro q h1 h2
    have e : poN g f k w (p + 1) = if k < p + 1 ∧ ltr g (f p) w then poN g f k w p else p + 1 := rfl
    rw [e] at h1
    by_cases h : k < p + 1 ∧ ltr g (f p) w
    · rw [if_pos h] at h1
      by_cases hq : q = p
      · rw [hq]; exact h.2
      · exact ih q h1 (by omega)
    · rw [if_neg h] at h1; omega
theorem poN_dn {g : Gs} {f : Nat → Nat} {k w : Nat} : ∀ n, k < poN g f k w n → ¬ ltr g (f (poN g f k w n - 1)) w := by
  intro n
  induction n with
  | zero => intro h; exact absurd h (by show ¬ k < 0; omega)
  | succ p ih =>
    have e : poN g f k w (p + 1) = if k < p + 1 ∧ ltr g (f p) w then poN g f k w p else p + 1 := rfl
    rw [e]
    by_cases h : k < p + 1 ∧ ltr g (f p) w
    · rw [if_pos h]; exact ih
    · rw [if_neg h]
      intro hk
      rw [Nat.add_sub_cancel]
      exact fun z => h ⟨hk, z⟩
/-- behind what is known the log is sorted -/
theorem lg_srt {g : Gs} {R : Nat → Bool} {n0 m0 k : Nat} (hI : Inv n0 m0 g) : ∀ W, W ≤ gW g → ∀ i j, k ≤ i → i < j → j < (lgN g R k W).2 → ltr g ((lgN g R k W).1 j) ((lgN g R k W).1 i) := by
  intro W
  induction W with
  | zero =>
    intro _ i j h1 h2 h3
    have h3 : j < k := h3
    omega
  | succ w ih =>
    intro hW
    have ih := ih (by omega)
    have li := lg_inv (g := g) (R := R) (k := k) w
    have e : lgN g R k (w + 1) = if R w = true then (inN (lgN g R k w).1 (poN g (lgN g R k w).1 k w (lgN g R k w).2) w, (lgN g R k w).2 + 1) else lgN g R k w := rfl
    by_cases hR : R w = true
    · rw [e, if_pos hR]
      show ∀ i j, k ≤ i → i < j → j < (lgN g R k w).2 + 1 → ltr g (inN (lgN g R k w).1 (poN g (lgN g R k w).1 k w (lgN g R k w).2) w j) (inN (lgN g R k w).1 (poN g (lgN g R k w).1 k w (lgN g R k w).2) w i)
      generalize (lgN g R k w).1 = f at ih li ⊢
      generalize (lgN g R k w).2 = n at ih li ⊢
      obtain ⟨a, b, c, d, _⟩ := li
      have p1 := poN_le (g := g) (f := f) (k := k) (w := w) n
      have p2 := poN_ge (g := g) (f := f) (k := k) (w := w) n a
      have p3 := poN_up (g := g) (f := f) (k := k) (w := w) n
      have p4 := poN_dn (g := g) (f := f) (k := k) (w := w) n
      generalize poN g f k w n = p at p1 p2 p3 p4 ⊢
      intro i j h1 h2 h3
      rcases Nat.lt_trichotomy i p with q | q | q
      · rw [inN_a q]
        rcases Nat.lt_trichotomy j p with q2 | q2 | q2
        · rw [inN_a q2]; exact ih i j h1 h2 (by omega)
        · subst q2
          rw [inN_b]
          have c1 := (c (j - 1) (by omega) (by omega)).1
          have hl : ltr g w (f (j - 1)) := (ltr_tot hI (by omega) (by omega) (by omega)).resolve_left (p4 (by omega))
          by_cases e2 : i = j - 1
          · rw [e2]; exact hl
          · exact ltr_trans hl (ih i (j - 1) h1 (by omega) (by omega))
        · rw [inN_c q2]; exact ih i (j - 1) h1 (by omega) (by omega)
      · subst q
        rw [inN_b, inN_c h2]
        exact p3 (j - 1) (by omega) (by omega)
      · rw [inN_c q, inN_c (by omega)]; exact ih (i - 1) (j - 1) (by omega) (by omega) (by omega)
    · rw [e, if_neg hR]
      exact ih
/-- what a log is -/
def LogOf (g : Gs) (P : Nat → Bool) (k : Nat) (f : Nat → Nat) (n : Nat) : Prop :=
  (k ≤ n) ∧
  (∀ i, i < k → f i = gD g i) ∧
  (∀ i, i < n → f i < gW g) ∧
  (∀ i j, i < n → j < n → f i = f j → i = j) ∧
  (∀ i, i < n → P (f i) = true) ∧
  (∀ w, w < gW g → P w = true → ∃ i, i < n ∧ f i = w) ∧
  (∀ i j, k ≤ i → i < j → j < n → ltr g (f j) (f i)) ∧
  (n ≤ gW g)
theorem LogOf.k_le {g : Gs} {P : Nat → Bool} {k : Nat} {f : Nat → Nat} {n : Nat} (h : LogOf g P k f n) : k ≤ n := h.1
theorem LogOf.known {g : Gs} {P : Nat → Bool} {k : Nat} {f : Nat → Nat} {n : Nat} (h : LogOf g P k f n) : ∀ i, i < k → f i = gD g i := h.2.1
theorem LogOf.lt {g : Gs} {P : Nat → Bool} {k : Nat} {f : Nat → Nat} {n : Nat} (h : LogOf g P k f n) : ∀ i, i < n → f i < gW g := h.2.2.1
theorem LogOf.inj {g : Gs} {P : Nat → Bool} {k : Nat} {f : Nat → Nat} {n : Nat} (h : LogOf g P k f n) : ∀ i j, i < n → j < n → f i = f j → i = j := h.2.2.2.1
theorem LogOf.mem {g : Gs} {P : Nat → Bool} {k : Nat} {f : Nat → Nat} {n : Nat} (h : LogOf g P k f n) : ∀ i, i < n → P (f i) = true := h.2.2.2.2.1
theorem LogOf.all {g : Gs} {P : Nat → Bool} {k : Nat} {f : Nat → Nat} {n : Nat} (h : LogOf g P k f n) : ∀ w, w < gW g → P w = true → ∃ i, i < n ∧ f i = w := h.2.2.2.2.2.1
theorem LogOf.srt {g : Gs} {P : Nat → Bool} {k : Nat} {f : Nat → Nat} {n : Nat} (h : LogOf g P k f n) : ∀ i j, k ≤ i → i < j → j < n → ltr g (f j) (f i) := h.2.2.2.2.2.2.1
theorem LogOf.len {g : Gs} {P : Nat → Bool} {k : Nat} {f : Nat → Nat} {n : Nat} (h : LogOf g P k f n) : n ≤ gW g := h.2.2.2.2.2.2.2
theorem logOf {g : Gs} {n m k : Nat} {P : Nat → Bool} (hI : Inv n m g) (hk : k ≤ gO g) (hP : ∀ i, i < k → P (gD g i) = true) : LogOf g P k (lgf g P k) (lgn g P k) := by
  have li := lg_inv (g := g) (R := lgR g P k) (k := k) (gW g)
  have la := lg_all (P := P) hI hk (Nat.le_refl _) li
  have lm := lg_mem (P := P) hI hk hP li
  refine ⟨li.1, li.2.1, la.1, fun i j hi hj e => ?_, lm.1, lm.2, lg_srt hI (gW g) (Nat.le_refl _), la.2.2⟩
  rcases Nat.lt_trichotomy i j with q | q | q
  · exact absurd e (la.2.1 i j q hj)
  · exact q
  · exact absurd e.symm (la.2.1 j i q hi)
theorem logC {g : Gs} {n m c : Nat} (hI : Inv n m g) (hn : n ≤ 5) (hc : c < n) : LogOf g (hsP g c) (gK g c) (lf g c) (ln g c) :=
  logOf hI (hI.2.2.1 c (by omega)) (fun i hi => by show decide (gA g c (gD g i) = 1) = true; rw [hI.2.2.2.2.2.2.1 c i hc hi]; rfl)
/-- a merged log goes as far with the one as the other did -/
theorem merge_len {g : Gs} {n m a b r s : Nat} (hI : Inv n m g) (hn : n ≤ 5) (ha : a < n) (hb : b < n) (h1 : AlS (lf g a) (lf g b) (ln g a) (ln g b) r) (h2 : AlS (lf g b) (lgf g (unP g a b) (max (gK g b) (gK g a))) (ln g b) (lgn g (unP g a b) (max (gK g b) (gK g a))) s) : r ≤ s := by
  have LA := logC hI hn ha
  have LB := logC hI hn hb
  have ka := hI.2.2.1 a (by omega)
  have kb := hI.2.2.1 b (by omega)
  have LM : LogOf g (unP g a b) (max (gK g b) (gK g a)) (lgf g (unP g a b) (max (gK g b) (gK g a))) (lgn g (unP g a b) (max (gK g b) (gK g a))) := logOf hI (by omega) (fun i hi => by
    show (decide (gA g a (gD g i) = 1) || decide (gA g b (gD g i) = 1)) = true
    rw [Bool.or_eq_true, decide_eq_true_eq, decide_eq_true_eq]
    by_cases q : i < gK g a
    · exact Or.inl (hI.2.2.2.2.2.2.1 a i ha q)
    · exact Or.inr (hI.2.2.2.2.2.2.1 b i hb (by omega)))
  generalize lgf g (unP g a b) (max (gK g b) (gK g a)) = M at LM h2
  generalize lgn g (unP g a b) (max (gK g b) (gK g a)) = N at LM h2
  generalize lf g a = A at LA h1
  generalize ln g a = nA at LA h1
  generalize lf g b = B at LB h1 h2
  generalize ln g b = nB at LB h1 h2
  obtain ⟨r1, r2, r3, _⟩ := h1
  have toM : ∀ w, w < gW g → (hsP g a w = true ∨ hsP g b w = true) → ∃ q, q < N ∧ M q = w := fun w hw h => LM.all w hw (by
    show (decide (gA g a w = 1) || decide (gA g b w = 1)) = true
    rw [Bool.or_eq_true]
    exact h)
  have key : ∀ i, i < r → i < N ∧ M i = B i := by
    intro i
    induction i using Nat.strongRecOn with
    | _ i ih =>
      intro hi
      have hBi := LB.lt i (by omega)
      obtain ⟨q, q1, q2⟩ := toM (B i) hBi (Or.inr (LB.mem i (by omega)))
      have hqi : i ≤ q := by
        rcases Nat.lt_or_ge q i with z | z
        · have := (ih q z (by omega)).2
          have := LB.inj q i (by omega) (by omega) (by rw [← this, q2])
          omega
        · exact z
      have hiN : i < N := by omega
      refine ⟨hiN, ?_⟩
      by_cases hqe : q = i
      · rw [← hqe, q2, hqe]
      · have hiq : i < q := by omega
        exfalso
        by_cases hk : i < max (gK g b) (gK g a)
        · have hM := LM.known i hk
          by_cases hkb : i < gK g b
          · have := LB.known i hkb
            have := LM.inj q i q1 hiN (by rw [q2, this, hM])
            omega
          · have hka : i < gK g a := by omega
            have e1 := LA.known i hka
            have e2 := r3 i hi
            have := LM.inj q i q1 hiN (by rw [q2, ← e2, e1, hM])
            omega
        · have hlt : ltr g (M q) (M i) := LM.srt i q (by omega) hiq q1
          have hm : (decide (gA g a (M i) = 1) || decide (gA g b (M i) = 1)) = true := LM.mem i hiN
          rw [Bool.or_eq_true] at hm
          rcases hm with z | z
          · obtain ⟨q', s1, s2⟩ := LA.all (M i) (LM.lt i hiN) z
            have hq' : i < q' := by
              rcases Nat.lt_trichotomy i q' with y | y | y
              · exact y
              · exfalso
                have e2 := r3 i hi
                have : M i = M q := s2.symm.trans ((congrArg A y.symm).trans (e2.trans q2.symm))
                have := LM.inj i q hiN q1 this
                omega
              · exfalso
                have e2 := r3 q' (by omega)
                have e3 := (ih q' y (by omega)).2
                have := LM.inj q' i (by omega) hiN (by rw [e3, ← e2, s2])
                omega
            have := LA.srt i q' (by omega) hq' s1
            rw [s2, r3 i hi, ← q2] at this
            exact ltr_asym this hlt
          · obtain ⟨q', s1, s2⟩ := LB.all (M i) (LM.lt i hiN) z
            have hq' : i < q' := by
              rcases Nat.lt_trichotomy i q' with y | y | y
              · exact y
              · exfalso
                have : M i = M q := s2.symm.trans ((congrArg B y.symm).trans q2.symm)
                have := LM.inj i q hiN q1 this
                omega
              · exfalso
                have e3 := (ih q' y (by omega)).2
                have := LM.inj q' i (by omega) hiN (by rw [e3, s2])
                omega
            have := LB.srt i q' (by omega) hq' s1
            rw [s2, ← q2] at this
            exact ltr_asym this hlt
  obtain ⟨s1, s2, s3, s4⟩ := h2
  rcases Nat.lt_or_ge s r with z | z
  · exfalso
    have k := key s z
    rcases s4 with y | y | y
    · omega
    · omega
    · exact y k.2.symm
  · exact z
theorem vecN_ge {g : Gs} {c w : Nat} (hA : gA g c w = 1) : ∀ k, w < k → gS g w ≤ vecN g c (gN g w) k := by
  intro k
  induction k with
  | zero => intro h; omega
  | succ k ih =>
    intro h
    show gS g w ≤ if gA g c k = 1 ∧ gN g k = gN g w then max (vecN g c (gN g w) k) (gS g k) else vecN g c (gN g w) k
    by_cases e : w = k
    · rw [if_pos ⟨by rw [← e]; exact hA, by rw [← e]⟩, e]
      exact Nat.le_max_right _ _
    · have := ih (by omega)
      split <;> omega
theorem cn_un {g : Gs} {a b : Nat} : ∀ k, cnN (fun w => decide (gA g a w = 1) || decide (gA g b w = 1)) k = cnN (hsP g b) k + lkN g a b k := by
  intro k
  induction k with
  | zero => rfl
  | succ k ih =>
    show (if (decide (gA g a k = 1) || decide (gA g b k = 1)) = true then cnN (fun w => decide (gA g a w = 1) || decide (gA g b w = 1)) k + 1 else cnN (fun w => decide (gA g a w = 1) || decide (gA g b w = 1)) k) = (if decide (gA g b k = 1) = true then cnN (hsP g b) k + 1 else cnN (hsP g b) k) + (if gA g a k = 1 ∧ gA g b k ≠ 1 then lkN g a b k + 1 else lkN g a b k)
    rw [ih]
    by_cases h1 : gA g a k = 1 <;> by_cases h2 : gA g b k = 1 <;> simp [h1, h2] <;> omega
theorem cn_cap {g : Gs} {a b : Nat} : ∀ k, cnN (hsP g a) k = lkN g a b k + cnN (fun w => decide (gA g a w = 1) && decide (gA g b w = 1)) k := by
  intro k
  induction k with
  | zero => rfl
  | succ k ih =>
    show (if decide (gA g a k = 1) = true then cnN (hsP g a) k + 1 else cnN (hsP g a) k) = (if gA g a k = 1 ∧ gA g b k ≠ 1 then lkN g a b k + 1 else lkN g a b k) + (if (decide (gA g a k = 1) && decide (gA g b k = 1)) = true then cnN (fun w => decide (gA g a w = 1) && decide (gA g b w = 1)) k + 1 else cnN (fun w => decide (gA g a w = 1) && decide (gA g b w = 1)) k)
    rw [ih]
    by_cases h1 : gA g a k = 1 <;> by_cases h2 : gA g b k = 1 <;> simp [h1, h2] <;> omega
theorem cap_sym {g : Gs} {a b : Nat} (k : Nat) : cnN (fun w => decide (gA g a w = 1) && decide (gA g b w = 1)) k = cnN (fun w => decide (gA g b w = 1) && decide (gA g a w = 1)) k := cnN_eq k (fun w _ => Bool.and_comm _ _)
/-- alike copies: the same logs -/
theorem al3_iff {g : Gs} {n m a b : Nat} (hI : Inv n m g) : al3 g a b = true ↔ (∀ w, gA g a w = 1 ↔ gA g b w = 1) ∧ gK g a = gK g b := by
  have hw : ∀ c w, gA g c w = 1 → w < gW g := fun c w h => (hI.2.2.2.2.2.1 c w h).1
  unfold al3
  rw [Bool.and_eq_true, Bool.and_eq_true, decide_eq_true_eq, decide_eq_true_eq, decide_eq_true_eq, lkN_0, lkN_0]
  constructor
  · rintro ⟨h1, h2, h3⟩
    exact ⟨fun w => ⟨fun z => h1 w (hw _ _ z) z, fun z => h2 w (hw _ _ z) z⟩, h3⟩
  · rintro ⟨h1, h3⟩
    exact ⟨fun w _ z => (h1 w).mp z, fun w _ z => (h1 w).mpr z, h3⟩
theorem al3_log {g : Gs} {n m a b : Nat} (hI : Inv n m g) (h : al3 g a b = true) : lf g a = lf g b ∧ ln g a = ln g b := by
  obtain ⟨h1, h2⟩ := (al3_iff hI).mp h
  have := lg_cong (g := g) (g' := g) (P := hsP g b) (P' := hsP g a) (k := gK g b) (fun _ => rfl) (fun _ => rfl) (fun _ => rfl) rfl (fun w _ => by
    show decide (gA g a w = 1) = decide (gA g b w = 1)
    rw [decide_eq_decide]
    exact h1 w)
  refine ⟨?_, ?_⟩
  · show lgf g (hsP g a) (gK g a) = _
    rw [h2]; exact this.1
  · show lgn g (hsP g a) (gK g a) = _
    rw [h2]; exact this.2
theorem al3_sym {g : Gs} {a b : Nat} : al3 g a b = al3 g b a := by
  unfold al3
  cases h1 : decide (lkN g a b (gW g) = 0) <;> cases h2 : decide (lkN g b a (gW g) = 0) <;> simp [eq_comm]
theorem al3_self {g : Gs} {a : Nat} : al3 g a a = true := by
  have : lkN g a a (gW g) = 0 := (lkN_0 _).mpr (fun _ _ h => h)
  unfold al3
  rw [this]
  simp
theorem dfN_sym {T : Td} {g : Gs} {a b : Nat} : ∀ k, dfN T g a b k = dfN T g b a k := by
  intro k
  induction k with
  | zero => rfl
  | succ k ih =>
    show (if envS T g (lf g a) (ln g a) k = envS T g (lf g b) (ln g b) k then dfN T g a b k else dfN T g a b k ||| ((1 : Int32) <<< (nI k &&& 31))) = (if envS T g (lf g b) (ln g b) k = envS T g (lf g a) (ln g a) k then dfN T g b a k else dfN T g b a k ||| ((1 : Int32) <<< (nI k &&& 31)))
    rw [ih]
    by_cases h : envS T g (lf g a) (ln g a) k = envS T g (lf g b) (ln g b) k
    · rw [if_pos h, if_pos h.symm]
    · rw [if_neg h, if_neg (fun z => h z.symm)]
theorem dfN_0 {T : Td} {g : Gs} {n m a b : Nat} (hI : Inv n m g) (h : al3 g a b = true) : ∀ k, dfN T g a b k = 0 := by
  obtain ⟨h1, h2⟩ := al3_log hI h
  intro k
  induction k with
  | zero => rfl
  | succ k ih =>
    show (if envS T g (lf g a) (ln g a) k = envS T g (lf g b) (ln g b) k then dfN T g a b k else dfN T g a b k ||| ((1 : Int32) <<< (nI k &&& 31))) = 0
    rw [h1, h2, if_pos rfl, ih]
