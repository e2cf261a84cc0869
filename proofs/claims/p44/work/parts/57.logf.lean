/-! logs as functions: of the order the first, then the rest by stamps; how many of a sort -/
theorem pig : ∀ (W n : Nat) (f : Nat → Nat), (∀ i, i < n → f i < W) → (∀ i j, i < j → j < n → f i ≠ f j) → n ≤ W := by
  intro W
  induction W with
  | zero =>
    intro n f h _
    by_cases h0 : n = 0
    · omega
    · exact absurd (h 0 (by omega)) (by omega)
  | succ W ih =>
    intro n f h hd
    by_cases he : ∃ i, i < n ∧ f i = W
    · obtain ⟨p, hp, hpe⟩ := he
      have := ih (n - 1) (fun i => if i < p then f i else f (i + 1)) (fun i hi => by
        show (if i < p then f i else f (i + 1)) < W
        by_cases h1 : i < p
        · rw [if_pos h1]
          have a := h i (by omega)
          have b := hd i p h1 hp
          omega
        · rw [if_neg h1]
          have a := h (i + 1) (by omega)
          have b := hd p (i + 1) (by omega) (by omega)
          omega) (fun i j hij hj => by
        show (if i < p then f i else f (i + 1)) ≠ (if j < p then f j else f (j + 1))
        by_cases h1 : i < p
        · rw [if_pos h1]
          by_cases h2 : j < p
          · rw [if_pos h2]; exact hd i j hij (by omega)
          · rw [if_neg h2]; exact hd i (j + 1) (by omega) (by omega)
        · rw [if_neg h1, if_neg (by omega)]
          exact hd (i + 1) (j + 1) (by omega) (by omega))
      omega
    · have := ih n f (fun i hi => by
        have a := h i hi
        have b : f i ≠ W := fun e => he ⟨i, hi, e⟩
        omega) hd
      omega
/-- how many below k are of a sort -/
def cnN (P : Nat → Bool) : Nat → Nat
  | 0 => 0
  | k + 1 => if P k = true then cnN P k + 1 else cnN P k
theorem cnN_le {P : Nat → Bool} : ∀ k, cnN P k ≤ k := by
  intro k
  induction k with
  | zero => exact Nat.le_refl _
  | succ k ih =>
    show (if _ then _ else _) ≤ k + 1
    by_cases h : P k = true
    · rw [if_pos h]; omega
    · rw [if_neg h]; omega
theorem cnN_eq {P Q : Nat → Bool} : ∀ k, (∀ w, w < k → P w = Q w) → cnN P k = cnN Q k := by
  intro k
  induction k with
  | zero => intro _; rfl
  | succ k ih =>
    intro h
    show (if P k = true then cnN P k + 1 else cnN P k) = (if Q k = true then cnN Q k + 1 else cnN Q k)
    rw [ih (fun w hw => h w (by omega)), h k (by omega)]
theorem cnN_bij {P : Nat → Bool} : ∀ (W n : Nat) (f : Nat → Nat), (∀ i, i < n → f i < W ∧ P (f i) = true) → (∀ i j, i < j → j < n → f i ≠ f j) → (∀ w, w < W → P w = true → ∃ i, i < n ∧ f i = w) → cnN P W = n := by
  intro W
  induction W with
  | zero =>
    intro n f h _ _
    by_cases h0 : n = 0
    · rw [h0]; rfl
    · exact absurd (h 0 (by omega)).1 (by omega)
  | succ W ih =>
    intro n f h hd hs
    show (if P W = true then cnN P W + 1 else cnN P W) = n
    by_cases hP : P W = true
    · rw [if_pos hP]
      obtain ⟨p, hp, hpe⟩ := hs W (by omega) hP
      have := ih (n - 1) (fun i => if i < p then f i else f (i + 1)) (fun i hi => by
        show (if i < p then f i else f (i + 1)) < W ∧ P (if i < p then f i else f (i + 1)) = true
        by_cases h1 : i < p
        · rw [if_pos h1]
          have a := h i (by omega)
          have b := hd i p h1 hp
          exact ⟨by omega, a.2⟩
        · rw [if_neg h1]
          have a := h (i + 1) (by omega)
          have b := hd p (i + 1) (by omega) (by omega)
          exact ⟨by omega, a.2⟩) (fun i j hij hj => by
        show (if i < p then f i else f (i + 1)) ≠ (if j < p then f j else f (j + 1))
        by_cases h1 : i < p
        · rw [if_pos h1]
          by_cases h2 : j < p
          · rw [if_pos h2]; exact hd i j hij (by omega)
          · rw [if_neg h2]; exact hd i (j + 1) (by omega) (by omega)
        · rw [if_neg h1, if_neg (by omega)]
          exact hd (i + 1) (j + 1) (by omega) (by omega)) (fun w hw hPw => by
        obtain ⟨i, hi, hie⟩ := hs w (by omega) hPw
        by_cases h1 : i < p
        · exact ⟨i, by omega, by show (if i < p then f i else f (i + 1)) = w; rw [if_pos h1]; exact hie⟩
        · have : i ≠ p := fun e => by subst e; omega
          exact ⟨i - 1, by omega, by show (if i - 1 < p then f (i - 1) else f (i - 1 + 1)) = w; rw [if_neg (by omega), show i - 1 + 1 = i by omega]; exact hie⟩)
      omega
    · rw [if_neg hP]
      refine ih n f (fun i hi => ?_) hd (fun w hw hPw => hs w (by omega) hPw)
      have a := h i hi
      have b : f i ≠ W := fun e => hP (by rw [← e]; exact a.2)
      exact ⟨by omega, a.2⟩
/-- is w among the first k of the order -/
def knN (g : Gs) (w : Nat) : Nat → Bool
  | 0 => false
  | k + 1 => knN g w k || decide (gD g k = w)
theorem knN_iff {g : Gs} {w : Nat} : ∀ k, knN g w k = true ↔ ∃ i, i < k ∧ gD g i = w := by
  intro k
  induction k with
  | zero => exact ⟨fun z => absurd z (show ¬ (false = true) by decide), fun ⟨i, h, _⟩ => absurd h (by omega)⟩
  | succ k ih =>
    show (knN g w k || decide (gD g k = w)) = true ↔ _
    rw [Bool.or_eq_true, ih, decide_eq_true_eq]
    constructor
    · intro z
      rcases z with ⟨i, h, e⟩ | e
      · exact ⟨i, by omega, e⟩
      · exact ⟨k, by omega, e⟩
    · intro ⟨i, h, e⟩
      by_cases hk : i = k
      · subst hk; exact Or.inr e
      · exact Or.inl ⟨i, by omega, e⟩
abbrev ltr (g : Gs) (a b : Nat) : Prop := gS g b < gS g a ∨ (gS g a = gS g b ∧ gN g b < gN g a)
/-- the place at which w comes into a log that has f, from the place p on; k of it fixed -/
def poN (g : Gs) (f : Nat → Nat) (k w : Nat) : Nat → Nat
  | 0 => 0
  | p + 1 => if k < p + 1 ∧ ltr g (f p) w then poN g f k w p else p + 1
theorem poN_le {g : Gs} {f : Nat → Nat} {k w : Nat} : ∀ p, poN g f k w p ≤ p := by
  intro p
  induction p with
  | zero => exact Nat.le_refl _
  | succ p ih =>
    show (if _ then _ else _) ≤ p + 1
    by_cases h : k < p + 1 ∧ ltr g (f p) w
    · rw [if_pos h]; omega
    · rw [if_neg h]; omega
theorem poN_ge {g : Gs} {f : Nat → Nat} {k w : Nat} : ∀ p, k ≤ p → k ≤ poN g f k w p := by
  intro p
  induction p with
  | zero => intro h; exact h
  | succ p ih =>
    intro h
    show k ≤ (if _ then _ else _)
    by_cases h1 : k < p + 1 ∧ ltr g (f p) w
    · rw [if_pos h1]; exact ih (by omega)
    · rw [if_neg h1]; omega
def inN (f : Nat → Nat) (p w : Nat) : Nat → Nat := fun i => if i < p then f i else if i = p then w else f (i - 1)
theorem inN_a {f : Nat → Nat} {p w i : Nat} (h : i < p) : inN f p w i = f i := if_pos h
theorem inN_b {f : Nat → Nat} {p w : Nat} : inN f p w p = w := by unfold inN; rw [if_neg (by omega), if_pos rfl]
theorem inN_c {f : Nat → Nat} {p w i : Nat} (h : p < i) : inN f p w i = f (i - 1) := by unfold inN; rw [if_neg (by omega), if_neg (by omega)]
def lgN (g : Gs) (R : Nat → Bool) (k : Nat) : Nat → (Nat → Nat) × Nat
  | 0 => (fun i => gD g i, k)
  | w + 1 => if R w = true then (inN (lgN g R k w).1 (poN g (lgN g R k w).1 k w (lgN g R k w).2) w, (lgN g R k w).2 + 1) else lgN g R k w
def LgI (g : Gs) (R : Nat → Bool) (k W : Nat) (f : Nat → Nat) (n : Nat) : Prop := k ≤ n ∧ (∀ i, i < k → f i = gD g i) ∧ (∀ i, k ≤ i → i < n → f i < W ∧ R (f i) = true) ∧ (∀ w, w < W → R w = true → ∃ i, k ≤ i ∧ i < n ∧ f i = w) ∧ (∀ i j, k ≤ i → i < j → j < n → f i ≠ f j)
theorem lg_inv {g : Gs} {R : Nat → Bool} {k : Nat} : ∀ W, LgI g R k W (lgN g R k W).1 (lgN g R k W).2 := by
  intro W
  induction W with
  | zero => exact ⟨Nat.le_refl _, fun _ _ => rfl, fun i h1 h2 => absurd h2 (Nat.not_lt.mpr h1), fun w hw => absurd hw (by omega), fun i j h1 h2 h3 => by have h3 : j < k := h3; omega⟩
  | succ w ih =>
    have e : lgN g R k (w + 1) = if R w = true then (inN (lgN g R k w).1 (poN g (lgN g R k w).1 k w (lgN g R k w).2) w, (lgN g R k w).2 + 1) else lgN g R k w := rfl
    by_cases hR : R w = true
    · rw [e, if_pos hR]
      show LgI g R k (w + 1) (inN (lgN g R k w).1 (poN g (lgN g R k w).1 k w (lgN g R k w).2) w) ((lgN g R k w).2 + 1)
      generalize (lgN g R k w).1 = f at ih ⊢
      generalize (lgN g R k w).2 = n at ih ⊢
      obtain ⟨a, b, c, d, e⟩ := ih
      have p1 := poN_le (g := g) (f := f) (k := k) (w := w) n
      have p2 := poN_ge (g := g) (f := f) (k := k) (w := w) n a
      generalize poN g f k w n = p at p1 p2 ⊢
      refine ⟨by omega, fun i hi => ?_, fun i h1 h2 => ?_, fun v hv hRv => ?_, fun i j h1 h2 h3 => ?_⟩
      · rw [inN_a (by omega)]; exact b i hi
      · rcases Nat.lt_trichotomy i p with q | q | q
        · rw [inN_a q]
          have := c i h1 (by omega)
          exact ⟨by omega, this.2⟩
        · subst q
          rw [inN_b]
          exact ⟨by omega, hR⟩
        · rw [inN_c q]
          have := c (i - 1) (by omega) (by omega)
          exact ⟨by omega, this.2⟩
      · by_cases hvw : v = w
        · subst hvw
          exact ⟨p, p2, by omega, inN_b⟩
        · obtain ⟨i, i1, i2, i3⟩ := d v (by omega) hRv
          by_cases q : i < p
          · exact ⟨i, i1, by omega, by rw [inN_a q]; exact i3⟩
          · exact ⟨i + 1, by omega, by omega, by rw [inN_c (by omega), Nat.add_sub_cancel]; exact i3⟩
      · rcases Nat.lt_trichotomy i p with q | q | q
        · rw [inN_a q]
          rcases Nat.lt_trichotomy j p with q2 | q2 | q2
          · rw [inN_a q2]; exact e i j h1 h2 (by omega)
          · subst q2
            rw [inN_b]
            have := (c i h1 (by omega)).1
            omega
          · rw [inN_c q2]; exact e i (j - 1) h1 (by omega) (by omega)
        · subst q
          rw [inN_b, inN_c h2]
          have := (c (j - 1) (by omega) (by omega)).1
          omega
        · rw [inN_c q, inN_c (by omega)]; exact e (i - 1) (j - 1) (by omega) (by omega) (by omega)
    · rw [e, if_neg hR]
      obtain ⟨a, b, c, d, e⟩ := ih
      refine ⟨a, b, fun i h1 h2 => ⟨by have := (c i h1 h2).1; omega, (c i h1 h2).2⟩, fun v hv hRv => ?_, e⟩
      by_cases hvw : v = w
      · subst hvw; exact absurd hRv hR
      · exact d v (by omega) hRv
/-- what a log is: all different writes, those of the set -/
theorem lg_all {g : Gs} {n m k W : Nat} {P : Nat → Bool} (hI : Inv n m g) (hk : k ≤ gO g) (hW : W ≤ gW g) {f : Nat → Nat} {N : Nat} (h : LgI g (fun w => P w && !knN g w k) k W f N) : (∀ i, i < N → f i < gW g) ∧ (∀ i j, i < j → j < N → f i ≠ f j) ∧ N ≤ gW g := by
  have hD := hI.2.2.2.2.2.2.2.1
  have hinj := hI.2.2.2.2.2.2.2.2.1
  obtain ⟨a, b, c, d, e⟩ := h
  have h1 : ∀ i, i < N → f i < gW g := fun i hi => by
    by_cases q : i < k
    · rw [b i q]; exact hD i (by omega)
    · have := (c i (by omega) hi).1; omega
  have h2 : ∀ i j, i < j → j < N → f i ≠ f j := fun i j hij hj => by
    by_cases q : j < k
    · rw [b i (by omega), b j q]
      intro z
      have := hinj i j (by omega) (by omega) z
      omega
    · by_cases q2 : i < k
      · rw [b i q2]
        intro z
        have := (c j (by omega) hj).2
        rw [Bool.and_eq_true] at this
        have t := this.2
        rw [Bool.not_eq_true'] at t
        rw [(knN_iff (g := g) (w := f j) k).mpr ⟨i, q2, z⟩] at t
        exact absurd t (by decide)
      · exact e i j (by omega) hij hj
  exact ⟨h1, h2, pig _ _ f h1 h2⟩
theorem lg_mem {g : Gs} {n m k W : Nat} {P : Nat → Bool} (hI : Inv n m g) (hk : k ≤ gO g) (hP : ∀ i, i < k → P (gD g i) = true) {f : Nat → Nat} {N : Nat} (h : LgI g (fun w => P w && !knN g w k) k W f N) : (∀ i, i < N → P (f i) = true) ∧ (∀ w, w < W → P w = true → ∃ i, i < N ∧ f i = w) := by
  obtain ⟨a, b, c, d, e⟩ := h
  refine ⟨fun i hi => ?_, fun w hw hPw => ?_⟩
  · by_cases q : i < k
    · rw [b i q]; exact hP i q
    · have := (c i (by omega) hi).2
      rw [Bool.and_eq_true] at this
      exact this.1
  · by_cases q : knN g w k = true
    · obtain ⟨i, h1, h2⟩ := (knN_iff k).mp q
      exact ⟨i, by omega, by rw [b i h1]; exact h2⟩
    · obtain ⟨i, h1, h2, h3⟩ := d w hw (by show (P w && !knN g w k) = true; rw [hPw, Bool.true_and]; simpa using q)
      exact ⟨i, h2, h3⟩
/-! how far two logs are alike -/
def AlS (f h : Nat → Nat) (n m r : Nat) : Prop := r ≤ n ∧ r ≤ m ∧ (∀ i, i < r → f i = h i) ∧ (r = n ∨ r = m ∨ f r ≠ h r)
theorem AlS_u {f h : Nat → Nat} {n m r s : Nat} (a : AlS f h n m r) (b : AlS f h n m s) : r = s := by
  obtain ⟨a1, a2, a3, a4⟩ := a
  obtain ⟨b1, b2, b3, b4⟩ := b
  rcases Nat.lt_trichotomy r s with q | q | q
  · rcases a4 with z | z | z
    · omega
    · omega
    · exact absurd (b3 r q) z
  · exact q
  · rcases b4 with z | z | z
    · omega
    · omega
    · exact absurd (a3 s q) z
theorem AlS_sym {f h : Nat → Nat} {n m r : Nat} (a : AlS f h n m r) : AlS h f m n r := ⟨a.2.1, a.1, fun i hi => (a.2.2.1 i hi).symm, by rcases a.2.2.2 with z | z | z; exact Or.inr (Or.inl z); exact Or.inl z; exact Or.inr (Or.inr (fun e => z e.symm))⟩
theorem AlS_cong {f h f' h' : Nat → Nat} {n m r : Nat} (hf : ∀ i, i < n → f' i = f i) (hh : ∀ i, i < m → h' i = h i) (a : AlS f h n m r) : AlS f' h' n m r := by
  obtain ⟨a1, a2, a3, a4⟩ := a
  refine ⟨a1, a2, fun i hi => by rw [hf i (by omega), hh i (by omega)]; exact a3 i hi, ?_⟩
  by_cases q1 : r = n
  · exact Or.inl q1
  · by_cases q2 : r = m
    · exact Or.inr (Or.inl q2)
    · rw [hf r (by omega), hh r (by omega)]
      exact a4
/-- a loop that goes on while both are alike -/
theorem al_loop {body : Int32 → Option (Int32 ⊕ Int32)} {f h : Nat → Nat} {n m : Nat} (hn : n < 1000) (hb : ∀ i, i ≤ n → i ≤ m → body (nI i) = if n ≤ i ∨ m ≤ i then some (.inr (nI i)) else if f i = h i then some (.inl (nI (i + 1))) else some (.inr (nI i))) : ∃ r, AlS f h n m r ∧ iter body FU (0 : Int32) = some (nI r) := by
  obtain ⟨x, h1, r, h2, h3⟩ := ow_iter (body := body) (Q := fun x => ∃ r, AlS f h n m r ∧ x = nI r) (fun k s => ∃ i, i ≤ n ∧ i ≤ m ∧ k = n - i ∧ s = nI i ∧ ∀ j, j < i → f j = h j) (fun k s ⟨i, hi, hi2, hk, hs, hj⟩ => by
    subst hs
    rw [hb i hi hi2]
    by_cases h0 : n ≤ i ∨ m ≤ i
    · rw [if_pos h0]
      exact ow_some.mpr ⟨i, ⟨hi, hi2, hj, by omega⟩, rfl⟩
    · rw [if_neg h0]
      by_cases h1 : f i = h i
      · rw [if_pos h1]
        refine ow_some.mpr ⟨n - (i + 1), by omega, i + 1, by omega, by omega, rfl, rfl, fun j hj2 => ?_⟩
        by_cases hji : j = i
        · subst hji; exact h1
        · exact hj j (by omega)
      · rw [if_neg h1]
        exact ow_some.mpr ⟨i, ⟨hi, hi2, hj, Or.inr (Or.inr h1)⟩, rfl⟩) FU n (0 : Int32) (FU_big (by omega)) ⟨0, Nat.zero_le _, Nat.zero_le _, rfl, rfl, fun j hj => absurd hj (by omega)⟩
  exact ⟨r, h2, by rw [h1, h3]⟩
/-- a loop that looks for a place -/
theorem pl_loop {body : Int32 → Option (Int32 ⊕ (Unit ⊕ Int32))} {f : Nat → Nat} {n w : Nat} (hn : n < 1000) (hb : ∀ i, i ≤ n → body (nI i) = if n ≤ i then some (.inr (.inl ())) else if f i = w then some (.inr (.inr (nI i))) else some (.inl (nI (i + 1)))) : ((∃ i, i < n ∧ f i = w ∧ bnd1 (iter body FU (0 : Int32)) (sx (un0 (some (-1 : Int32))) (fun q => some q)) = some (nI i)) ∨ ((∀ i, i < n → f i ≠ w) ∧ bnd1 (iter body FU (0 : Int32)) (sx (un0 (some (-1 : Int32))) (fun q => some q)) = some (-1))) := by
  obtain ⟨x, h1, h2⟩ := ow_iter (body := body) (Q := fun x => ((∃ i, i < n ∧ f i = w ∧ sx (un0 (some (-1 : Int32))) (fun q => some q) x = some (nI i)) ∨ ((∀ i, i < n → f i ≠ w) ∧ sx (un0 (some (-1 : Int32))) (fun q => some q) x = some (-1)))) (fun k s => ∃ i, i ≤ n ∧ k = n - i ∧ s = nI i ∧ ∀ j, j < i → f j ≠ w) (fun k s ⟨i, hi, hk, hs, hj⟩ => by
    subst hs
    rw [hb i hi]
    by_cases h0 : n ≤ i
    · rw [if_pos h0]
      exact ow_some.mpr (Or.inr ⟨fun j hj2 => hj j (by omega), rfl⟩)
    · rw [if_neg h0]
      by_cases h1 : f i = w
      · rw [if_pos h1]
        exact ow_some.mpr (Or.inl ⟨i, by omega, h1, rfl⟩)
      · rw [if_neg h1]
        refine ow_some.mpr ⟨n - (i + 1), by omega, i + 1, by omega, rfl, rfl, fun j hj2 => ?_⟩
        by_cases hji : j = i
        · subst hji; exact h1
        · exact hj j (by omega)) FU n (0 : Int32) (FU_big (by omega)) ⟨0, Nat.zero_le _, rfl, rfl, fun j hj => absurd hj (by omega)⟩
  rw [h1]
  exact h2
