/-! the base under changes -/
section BU
variable {u : Nat → Nat} {e n0 g l P fl pd : Nat} {σ0 τ0 σ τ : Wd}
theorem Bs.wC {c k : Nat} {v : Int32} (h : Bs u e n0 g l P fl pd σ0 τ0 σ τ) (hc : c = 2 ∨ c = 4 ∨ c = 5 ∨ (g ≤ c ∧ c ≤ g + 8)) (h2 : c = 2 → k ≠ 7 ∧ k ≠ 9 ∧ k ≠ 10) (h3 : c = g → k ≠ 13) : Bs u e n0 g l P fl pd σ0 τ0 (uI σ c k v) τ := by
  have hc' : c = 2 ∨ c = 4 ∨ c = 5 ∨ c = 6 ∨ (g ≤ c ∧ c ≤ g + 8) := by omega
  have hg := h.2.1.2.2.2.2.2.1
  have n6 : ¬ 6 = c := by omega
  obtain ⟨a, ⟨b1, b2, b3, b4, b5, bg, bf⟩, m, ⟨f1, f2, f3, f4⟩, ⟨s, s1, s2, s3⟩⟩ := h
  have o : ∀ c' k', ¬ (c' = c ∧ k' = k) → gI (uI σ c k v) c' k' = gI σ c' k' := fun c' k' z => by rw [gI_uI, if_neg z]
  refine ⟨a, ⟨b1, (o _ _ (fun z => n6 z.1)).trans b2, (o _ _ (fun z => n6 z.1)).trans b3, (o _ _ (fun z => (h2 z.1.symm).1 z.2.symm)).trans b4, b5, bg, bf.wI hc'⟩, m, ⟨(o _ _ (fun z => (h2 z.1.symm).2.1 z.2.symm)).trans f1, f2, f3, fun z => ?_⟩, ⟨s, s1, (o _ _ (fun z => h3 z.1.symm z.2.symm)).trans s2, fun z => (o _ _ (fun z => (h2 z.1.symm).2.2 z.2.symm)).trans (s3 z)⟩⟩
  obtain ⟨j, j1, j2, j3⟩ := f4 z
  exact ⟨j, j1, (o _ _ (fun z => (h2 z.1.symm).2.2 z.2.symm)).trans j2, j3⟩
theorem Bs.wS {s : Nat} (h : Bs u e n0 g l P fl pd σ0 τ0 σ τ) (hs : s ≤ 400) : Bs u e n0 g l P fl pd σ0 τ0 (uI σ g 13 (nI s)) τ := by
  obtain ⟨a, ⟨b1, b2, b3, b4, b5, bg, bf⟩, m, ⟨f1, f2, f3, f4⟩, ⟨_, _, _, s3⟩⟩ := h
  have o : ∀ c' k', ¬ (c' = g ∧ k' = 13) → gI (uI σ g 13 (nI s)) c' k' = gI σ c' k' := fun c' k' z => by rw [gI_uI, if_neg z]
  refine ⟨a, ⟨b1, (o _ _ (by omega)).trans b2, (o _ _ (by omega)).trans b3, (o _ _ (by omega)).trans b4, b5, bg, bf.wI (by omega)⟩, m, ⟨(o _ _ (by omega)).trans f1, f2, f3, fun z => ?_⟩, ⟨s, hs, gI_s, fun z => (o _ _ (by omega)).trans (s3 z)⟩⟩
  obtain ⟨j, j1, j2, j3⟩ := f4 z
  exact ⟨j, j1, (o _ _ (by omega)).trans j2, j3⟩
theorem Bs.wM {c k : Nat} {v : Int32} (h : Bs u e n0 g l P fl pd σ0 τ0 σ τ) (hc : okm l c k) (h2 : c = 0 → k ≠ 11 ∧ k ≠ 13 ∧ k ≠ 15 ∧ k ≠ 16) : Bs u e n0 g l P fl pd σ0 τ0 σ (uI τ c k v) := by
  obtain ⟨a, b, ⟨c1, c2, c3, c4, cl, cf⟩, ⟨f1, f2, f3, f4⟩, s⟩ := h
  have o : ∀ c' k', ¬ (c' = c ∧ k' = k) → gI (uI τ c k v) c' k' = gI τ c' k' := fun c' k' z => by rw [gI_uI, if_neg z]
  refine ⟨a, b, ⟨c1, (o _ _ (fun z => (h2 z.1.symm).1 z.2.symm)).trans c2, (o _ _ (fun z => (h2 z.1.symm).2.1 z.2.symm)).trans c3, (o _ _ (fun z => by rw [← z.1, ← z.2] at hc; unfold okm at hc; omega)).trans c4, cl, cf.wI hc⟩, ⟨f1, (o _ _ (fun z => (h2 z.1.symm).2.2.1 z.2.symm)).trans f2, f3, fun z => ?_⟩, s⟩
  obtain ⟨j, j1, j2, j3⟩ := f4 z
  exact ⟨j, j1, j2, (o _ _ (fun z => (h2 z.1.symm).2.2.2 z.2.symm)).trans j3⟩
theorem Bs.adv (h : Bs u e n0 g l P fl pd σ0 τ0 σ τ) (hk : kTk u e P ≠ 0) (hP : P < 400) : Bs u e n0 g l (P + 1) fl 0 σ0 τ0 (uI σ 6 4 (nI (P + 1))) (uI τ 0 11 (nI (P + 1))) := by
  obtain ⟨_, q2, _⟩ := h.lt hk
  obtain ⟨⟨a1, a2, a3, a4, a5, a6⟩, ⟨b1, b2, b3, b4, b5, bg, bf⟩, ⟨c1, c2, c3, c4, cl, cf⟩, ⟨f1, f2, f3, f4⟩, ⟨s, s1, s2, s3⟩⟩ := h
  have o : ∀ c' k', ¬ (c' = 6 ∧ k' = 4) → gI (uI σ 6 4 (nI (P + 1))) c' k' = gI σ c' k' := fun c' k' z => by rw [gI_uI, if_neg z]
  have m : ∀ c' k', ¬ (c' = 0 ∧ k' = 11) → gI (uI τ 0 11 (nI (P + 1))) c' k' = gI τ c' k' := fun c' k' z => by rw [gI_uI, if_neg z]
  refine ⟨⟨q2, by omega, a3, a4, a5, by omega⟩, ⟨b1, (o _ _ (by omega)).trans b2, gI_s, (o _ _ (by omega)).trans b4, b5, bg, bf.wI (by omega)⟩, ⟨c1, gI_s, (m _ _ (by omega)).trans c3, (m _ _ (by omega)).trans c4, cl, cf.wI (by unfold okm; omega)⟩, ⟨(o _ _ (by omega)).trans f1, (m _ _ (by omega)).trans f2, f3, fun z => ?_⟩, ⟨s, s1, (o _ _ (by omega)).trans s2, fun z => (o _ _ (by omega)).trans (s3 z)⟩⟩
  obtain ⟨j, j1, j2, j3⟩ := f4 z
  exact ⟨j, by omega, (o _ _ (by omega)).trans j2, (m _ _ (by omega)).trans j3⟩
end BU
/-- codes that run -/
def wfR (nc : Nat) : List (Nat × Int32) → Nat → Nat → Prop
  | [], d, D => d = D
  | (k, v) :: cs, d, D => (k = 0 ∧ d < 32 ∧ wfR nc cs (d + 1) D) ∨ (k = 1 ∧ d < 32 ∧ (∃ j, v = nI j ∧ (j < nc ∨ 6 ≤ j ∧ j < 9)) ∧ wfR nc cs (d + 1) D) ∨ (2 ≤ k ∧ k ≤ 5 ∧ 2 ≤ d ∧ wfR nc cs (d - 1) D)
theorem wfR_C {nc : Nat} : ∀ cs d, wfR nc cs d 1 → wfC nc cs d := by
  intro cs
  induction cs with
  | nil => intro d h; exact h
  | cons x cs ih =>
    intro d h
    obtain ⟨k, v⟩ := x
    rcases h with ⟨a, b, c⟩ | ⟨a, b, c, f⟩ | ⟨a, b, c, f⟩
    · exact Or.inl ⟨a, b, ih _ c⟩
    · exact Or.inr (Or.inl ⟨a, b, c, ih _ f⟩)
    · exact Or.inr (Or.inr ⟨a, b, c, ih _ f⟩)
theorem wfR_app {nc D : Nat} {x : Nat × Int32} {D' : Nat} : ∀ cs d, wfR nc cs d D → wfR nc [x] D D' → wfR nc (cs ++ [x]) d D' := by
  intro cs
  induction cs with
  | nil => intro d h h2; have h : d = D := h; rw [h]; exact h2
  | cons y cs ih =>
    intro d h h2
    obtain ⟨k, v⟩ := y
    rcases h with ⟨a, b, c⟩ | ⟨a, b, c, f⟩ | ⟨a, b, c, f⟩
    · exact Or.inl ⟨a, b, ih _ c h2⟩
    · exact Or.inr (Or.inl ⟨a, b, c, ih _ f h2⟩)
    · exact Or.inr (Or.inr ⟨a, b, c, ih _ f h2⟩)
theorem wfR_num {nc D : Nat} {v : Int32} (h : D < 32) : wfR nc [(0, v)] D (D + 1) := Or.inl ⟨rfl, h, rfl⟩
theorem wfR_ref {nc D j : Nat} (h : D < 32) (hj : j < nc ∨ 6 ≤ j ∧ j < 9) : wfR nc [(1, nI j)] D (D + 1) := Or.inr (Or.inl ⟨rfl, h, ⟨j, rfl, hj⟩, rfl⟩)
theorem wfR_op {nc D k : Nat} {v : Int32} (h : 2 ≤ D) (h1 : 2 ≤ k) (h2 : k ≤ 5) : wfR nc [(k, v)] D (D - 1) := Or.inr (Or.inr ⟨h1, h2, h, rfl⟩)
theorem wfC_up {nc nc' : Nat} (hn : nc ≤ nc') : ∀ cs d, wfC nc cs d → wfC nc' cs d := by
  intro cs
  induction cs with
  | nil => intro d h; exact h
  | cons x cs ih =>
    intro d h
    obtain ⟨k, v⟩ := x
    rcases h with ⟨a, b, c⟩ | ⟨a, b, ⟨j, j1, j2⟩, f⟩ | ⟨a, b, c, f⟩
    · exact Or.inl ⟨a, b, ih _ c⟩
    · exact Or.inr (Or.inl ⟨a, b, ⟨j, j1, by omega⟩, ih _ f⟩)
    · exact Or.inr (Or.inr ⟨a, b, c, ih _ f⟩)
theorem getD_app {α : Type} {x d : α} : ∀ (cs : List α) (i : Nat), (cs ++ [x]).getD i d = if i < cs.length then cs.getD i d else if i = cs.length then x else d := by
  intro cs
  induction cs with
  | nil =>
    intro i
    cases i with
    | zero => rfl
    | succ i => rfl
  | cons y cs ih =>
    intro i
    cases i with
    | zero => rfl
    | succ i =>
      show (cs ++ [x]).getD i d = if i + 1 < cs.length + 1 then cs.getD i d else if i + 1 = cs.length + 1 then x else d
      rw [ih]
      by_cases h : i < cs.length
      · rw [if_pos h, if_pos (by omega)]
      · rw [if_neg h, if_neg (show ¬ i + 1 < cs.length + 1 by omega)]
        by_cases h2 : i = cs.length
        · rw [if_pos h2, if_pos (by omega)]
        · rw [if_neg h2, if_neg (by omega)]
theorem CC_app {cs : List (Nat × Int32)} {a k : Nat} {v : Int32} {ks vs ks' vs' : Nat → Int32} (h : CC cs a ks vs) (h1 : ∀ i, i < a + cs.length → ks' i = ks i ∧ vs' i = vs i) (h2 : ks' (a + cs.length) = (ckd k v).1) (h3 : (k ≠ 1 ∨ v < 6) → vs' (a + cs.length) = (ckd k v).2) : CC (cs ++ [(k, v)]) a ks' vs' := by
  intro i hi
  rw [List.length_append] at hi
  have hi : i < cs.length + 1 := hi
  rw [getD_app]
  by_cases h0 : i < cs.length
  · rw [if_pos h0, (h1 (a + i) (by omega)).1, (h1 (a + i) (by omega)).2]
    exact h i h0
  · rw [if_neg h0, if_pos (by omega), show i = cs.length by omega]
    exact ⟨h2, h3⟩
theorem CM_app {cs : List (Nat × Int32)} {a k : Nat} {v : Int32} {ks vs ks' vs' : Nat → Int32} (h : CM cs a ks vs) (h1 : ∀ i, i < a + cs.length → ks' i = ks i ∧ vs' i = vs i) (h2 : ks' (a + cs.length) = nI k) (h3 : k < 2 → vs' (a + cs.length) = v) : CM (cs ++ [(k, v)]) a ks' vs' := by
  intro i hi
  rw [List.length_append] at hi
  have hi : i < cs.length + 1 := hi
  rw [getD_app]
  by_cases h0 : i < cs.length
  · rw [if_pos h0, (h1 (a + i) (by omega)).1, (h1 (a + i) (by omega)).2]
    exact h i h0
  · rw [if_neg h0, if_pos (by omega), show i = cs.length by omega]
    exact ⟨h2, h3⟩
