/-! replays: what hangs, who set what, what came of each -/
section RP
variable {T : Td} {g : Gs}
theorem do_all {w : Nat} {e : Nat → Int32} : ((doS T g w e).1 = 0 ∧ ∃ v, (doS T g w e).2.1 = tT T (gF g w) + 1 ∧ (doS T g w e).2.2 = upd e (tT T (gF g w)) v) ∨ ((doS T g w e).1 = 1 ∧ tE T (gF g w) ≠ 0 ∧ ∃ v, (doS T g w e).2.1 = tE T (gF g w) ∧ (doS T g w e).2.2 = upd e (tE T (gF g w) - 1) v) ∨ (((doS T g w e).1 = 2 ∨ (doS T g w e).1 = 3) ∧ (doS T g w e).2.1 = 0 ∧ (doS T g w e).2.2 = e) := by
  unfold doS
  cases h0 : evP T g w e 0 with
  | none => exact Or.inr (Or.inr ⟨Or.inr rfl, rfl, rfl⟩)
  | some a =>
    cases h1 : evP T g w e 1 with
    | none => exact Or.inr (Or.inr ⟨Or.inr rfl, rfl, rfl⟩)
    | some b =>
      simp only
      by_cases q : (if tL T (gF g w) = 1 then a < b else a = b)
      · rw [if_pos q]
        cases h2 : evP T g w e 2 with
        | none => exact Or.inr (Or.inr ⟨Or.inr rfl, rfl, rfl⟩)
        | some v => exact Or.inl ⟨rfl, v, rfl, rfl⟩
      · rw [if_neg q]
        by_cases q2 : tE T (gF g w) = 0
        · rw [if_pos q2]
          exact Or.inr (Or.inr ⟨Or.inl rfl, rfl, rfl⟩)
        · rw [if_neg q2]
          cases h3 : evP T g w e 3 with
          | none => exact Or.inr (Or.inr ⟨Or.inr rfl, rfl, rfl⟩)
          | some v => exact Or.inr (Or.inl ⟨rfl, q2, v, rfl, rfl⟩)
variable {f : Nat → Nat} {p : Nat}
theorem cH_lt : ∀ i, cH T g f p i ≤ i - (p + 1) := by
  intro i
  induction i with
  | zero => exact Nat.zero_le _
  | succ i ih =>
    show (if p < i ∧ oH T g f p i ≠ outS T g f i then cH T g f p i + 1 else cH T g f p i) ≤ _
    by_cases h : p < i ∧ oH T g f p i ≠ outS T g f i
    · rw [if_pos h]; omega
    · rw [if_neg h]; omega
theorem fH_at : ∀ i, (cH T g f p i = 0 ∧ fH T g f p i = -2) ∨ (cH T g f p i ≠ 0 ∧ ∃ j, p < j ∧ j < i ∧ fH T g f p i = nI (f j)) := by
  intro i
  induction i with
  | zero => exact Or.inl ⟨rfl, rfl⟩
  | succ i ih =>
    show ((if p < i ∧ oH T g f p i ≠ outS T g f i then cH T g f p i + 1 else cH T g f p i) = 0 ∧ (if (p < i ∧ oH T g f p i ≠ outS T g f i) ∧ cH T g f p i = 0 then nI (f i) else fH T g f p i) = -2) ∨ ((if p < i ∧ oH T g f p i ≠ outS T g f i then cH T g f p i + 1 else cH T g f p i) ≠ 0 ∧ ∃ j, p < j ∧ j < i + 1 ∧ (if (p < i ∧ oH T g f p i ≠ outS T g f i) ∧ cH T g f p i = 0 then nI (f i) else fH T g f p i) = nI (f j))
    by_cases h : p < i ∧ oH T g f p i ≠ outS T g f i
    · rw [if_pos h]
      right
      refine ⟨by omega, ?_⟩
      rcases ih with ⟨h1, h2⟩ | ⟨h1, j, j1, j2, j3⟩
      · rw [if_pos ⟨h, h1⟩]
        exact ⟨i, h.1, by omega, rfl⟩
      · rw [if_neg (fun z => h1 z.2)]
        exact ⟨j, j1, by omega, j3⟩
    · rw [if_neg h, if_neg (fun z => h z.1)]
      rcases ih with ⟨h1, h2⟩ | ⟨h1, j, j1, j2, j3⟩
      · exact Or.inl ⟨h1, h2⟩
      · exact Or.inr ⟨h1, j, j1, by omega, j3⟩
/-- nothing hangs on what changed nothing -/
theorem cH_idle {n : Nat} (hI : TInv T) (hf : ∀ i, i < n → gF g (f i) < tF T) (hp : p < n) (ho : outS T g f p = 2 ∨ outS T g f p = 3) : cH T g f p n = 0 := by
  have e1 : envS T g f (p + 1) = envS T g f p := by
    rcases do_all (T := T) (g := g) (w := f p) (e := envS T g f p) with ⟨z, _⟩ | ⟨z, _⟩ | ⟨_, _, z⟩
    · exfalso
      rcases ho with q | q
      · have q : (doS T g (f p) (envS T g f p)).1 = 2 := q
        rw [z] at q; exact absurd q (by decide)
      · have q : (doS T g (f p) (envS T g f p)).1 = 3 := q
        rw [z] at q; exact absurd q (by decide)
    · exfalso
      rcases ho with q | q
      · have q : (doS T g (f p) (envS T g f p)).1 = 2 := q
        rw [z] at q; exact absurd q (by decide)
      · have q : (doS T g (f p) (envS T g f p)).1 = 3 := q
        rw [z] at q; exact absurd q (by decide)
    · exact z
  have := (hang_stop (T := T) (g := g) (f := f) (p := p) (n := n) hI hf (i := p + 1) (by omega) (fun c _ => by rw [eH_p, e1]) (n - (p + 1)) (by omega)).2.1
  rw [show p + 1 + (n - (p + 1)) = n by omega] at this
  rw [this]
  exact (cH_0 (p + 1) (Nat.le_refl _)).1
theorem st_at {k : Nat} : ∀ n, (stS T g f k n = -2 ∧ ∀ j, j < n → chS T g f j ≠ k + 1) ∨ ∃ j, j < n ∧ chS T g f j = k + 1 ∧ stS T g f k n = nI (f j) := by
  intro n
  induction n with
  | zero => exact Or.inl ⟨rfl, fun j hj => absurd hj (by omega)⟩
  | succ n ih =>
    show ((if chS T g f n = k + 1 then nI (f n) else stS T g f k n) = -2 ∧ _) ∨ ∃ j, j < n + 1 ∧ chS T g f j = k + 1 ∧ (if chS T g f n = k + 1 then nI (f n) else stS T g f k n) = nI (f j)
    by_cases h : chS T g f n = k + 1
    · rw [if_pos h]
      exact Or.inr ⟨n, by omega, h, rfl⟩
    · rw [if_neg h]
      rcases ih with ⟨h1, h2⟩ | ⟨j, j1, j2, j3⟩
      · refine Or.inl ⟨h1, fun j hj => ?_⟩
        by_cases e : j = n
        · rw [e]; exact h
        · exact h2 j (by omega)
      · exact Or.inr ⟨j, by omega, j2, j3⟩
/-- the step of a log -/
theorem env_step {i : Nat} : (chS T g f i = 0 ∧ envS T g f (i + 1) = envS T g f i) ∨ (chS T g f i ≠ 0 ∧ (outS T g f i = 0 ∨ outS T g f i = 1) ∧ ∃ v, envS T g f (i + 1) = upd (envS T g f i) (chS T g f i - 1) v) := by
  rcases do_all (T := T) (g := g) (w := f i) (e := envS T g f i) with ⟨z, v, z2, z3⟩ | ⟨z, z1, v, z2, z3⟩ | ⟨_, z2, z3⟩
  · right
    have z2 : chS T g f i = tT T (gF g (f i)) + 1 := z2
    exact ⟨by omega, Or.inl z, v, by rw [z2, Nat.add_sub_cancel]; exact z3⟩
  · right
    have z2 : chS T g f i = tE T (gF g (f i)) := z2
    exact ⟨by omega, Or.inr z, v, by rw [z2]; exact z3⟩
  · exact Or.inl ⟨z2, z3⟩
theorem env_keep {k : Nat} : ∀ n, (∀ j, j < n → chS T g f j ≠ k + 1) → envS T g f n k = tI T k := by
  intro n
  induction n with
  | zero => intro _; rfl
  | succ n ih =>
    intro h
    have := ih (fun j hj => h j (by omega))
    rcases env_step (T := T) (g := g) (f := f) (i := n) with ⟨_, e⟩ | ⟨z, _, v, e⟩
    · rw [e, this]
    · rw [e]
      unfold upd
      have := h n (by omega)
      rw [if_neg (by omega)]
      assumption
/-- the cells that a step changes -/
def chgN (T : Td) (g : Gs) (f : Nat → Nat) (i : Nat) : Nat → Nat
  | 0 => 0
  | k + 1 => if envS T g f i k ≠ envS T g f (i + 1) k then chgN T g f i k + 1 else chgN T g f i k
theorem chg_0 {i : Nat} (h : chS T g f i = 0) : ∀ k, chgN T g f i k = 0 := by
  intro k
  induction k with
  | zero => rfl
  | succ k ih =>
    show (if _ then _ else _) = 0
    rcases env_step (T := T) (g := g) (f := f) (i := i) with ⟨_, e⟩ | ⟨z, _⟩
    · rw [e, if_neg (fun z => z rfl), ih]
    · exact absurd h z
theorem chg_1 {i : Nat} : ∀ k, chgN T g f i k ≤ (if chS T g f i ≠ 0 ∧ chS T g f i ≤ k then 1 else 0) := by
  intro k
  induction k with
  | zero => exact Nat.zero_le _
  | succ k ih =>
    have e0 : chgN T g f i (k + 1) = if envS T g f i k ≠ envS T g f (i + 1) k then chgN T g f i k + 1 else chgN T g f i k := rfl
    rcases env_step (T := T) (g := g) (f := f) (i := i) with ⟨z, e⟩ | ⟨z, _, v, e⟩
    · rw [chg_0 z]; exact Nat.zero_le _
    · rw [e0, e]
      unfold upd
      by_cases q : k = chS T g f i - 1
      · rw [if_pos q]
        have : ¬ chS T g f i ≤ k := by omega
        rw [if_neg (fun y => this y.2)] at ih
        rw [if_pos (show chS T g f i ≠ 0 ∧ chS T g f i ≤ k + 1 from ⟨z, by omega⟩)]
        split <;> omega
      · rw [if_neg q, if_neg (fun y => y rfl)]
        refine Nat.le_trans ih ?_
        split
        · rw [if_pos (by omega)]; exact Nat.le_refl _
        · exact Nat.zero_le _
/-- at most one cell, and none where nothing was done -/
theorem chg_out {i k : Nat} : chgN T g f i k ≤ 1 ∧ (¬ (outS T g f i = 0 ∨ outS T g f i = 1) → chgN T g f i k = 0) := by
  refine ⟨Nat.le_trans (chg_1 k) (by split <;> omega), fun h => ?_⟩
  rcases env_step (T := T) (g := g) (f := f) (i := i) with ⟨z, _⟩ | ⟨_, z, _⟩
  · exact chg_0 z k
  · exact absurd z h
/-- the most of what hangs, from a place on -/
def moN (T : Td) (g : Gs) (c : Nat) : Nat → Nat → Nat
  | 0, _ => 0
  | d + 1, i => max (cH T g (lf g c) i (ln g c)) (moN T g c d (i + 1))
theorem moN_ge {c : Nat} : ∀ d i j, i ≤ j → j < i + d → cH T g (lf g c) j (ln g c) ≤ moN T g c d i := by
  intro d
  induction d with
  | zero => intro i j h1 h2; omega
  | succ d ih =>
    intro i j h1 h2
    show _ ≤ max (cH T g (lf g c) i (ln g c)) (moN T g c d (i + 1))
    by_cases e : j = i
    · rw [e]; exact Nat.le_max_left _ _
    · exact Nat.le_trans (ih (i + 1) j (by omega) (by omega)) (Nat.le_max_right _ _)
theorem moN_le {c m : Nat} : ∀ d i, (∀ j, i ≤ j → j < i + d → cH T g (lf g c) j (ln g c) ≤ m) → moN T g c d i ≤ m := by
  intro d
  induction d with
  | zero => intro i _; exact Nat.zero_le _
  | succ d ih =>
    intro i h
    show max (cH T g (lf g c) i (ln g c)) (moN T g c d (i + 1)) ≤ m
    exact Nat.max_le.mpr ⟨h i (Nat.le_refl _) (by omega), ih (i + 1) (fun j h1 h2 => h j (by omega) (by omega))⟩
theorem moN_key {c : Nat} : moN T g c (ln g c) 0 = (kyN T g c (ln g c)).1 := by
  have kb := kyN_bd (T := T) (g := g) (c := c) (ln g c)
  refine Nat.le_antisymm (moN_le _ _ (fun j _ hj => kb.2.2 j (by omega))) ?_
  rcases kb.2.1 with ⟨z, _⟩ | ⟨_, j, hj, _, z⟩
  · omega
  · rw [z]; exact moN_ge _ _ j (Nat.zero_le _) (by omega)
end RP
