/-! expressions: the loop, its frame -/
def cbL (v : Int32) (s : Int32 × Int32 × Int32 × Int32 × Wd) : Option ((Int32 × Int32 × Int32 × Int32 × Wd) ⊕ Wd) := M_X3_takeExpression_L31 v s.1 s.2.1 s.2.2.1 s.2.2.2.1 s.2.2.2.2
def mbL (s : Int32 × Wd) : Option ((Int32 × Wd) ⊕ (Wd ⊕ Wd)) := M_X9_expression_L12 0 s.1 s.2
def cntL (n : Nat) (r : Option ((Int32 × Wd) ⊕ (Wd ⊕ Wd))) : Option (Wd ⊕ Wd) := match r with
  | none => none
  | some (.inl s) => iter mbL n s
  | some (.inr x) => some x
theorem it_cnt {n : Nat} {s : Int32 × Wd} : iter mbL (n + 1) s = cntL n (mbL s) := by
  rw [iter]
  cases mbL s with
  | none => rfl
  | some x => cases x <;> rfl
def B96 (n : Nat) (τ : Wd) : Option ((Int32 × Wd) ⊕ (Wd ⊕ Wd)) := bnd1 (iter (fun s : Wd => M_X9_expression_L96 0 s) n τ) fun sx_96 => M_X9_expression_J145 sx_96 0
def B23 (n : Nat) (τ : Wd) : Option ((Int32 × Wd) ⊕ (Wd ⊕ Wd)) := bnd1 (iter (fun s : Wd => M_X9_expression_L23 0 s) n τ) fun sx_23 => bnd1 (M_X9_unit sx_23) fun s_85 => if (gI s_85 0 13) ≤ 0 then B96 FU s_85 else some (.inr (.inr s_85))
theorem mbL_1 {τ : Wd} (h : gI τ 0 13 = 0) : mbL (1, τ) = B23 FU τ := by
  show M_X9_expression_L12 0 1 τ = _
  unfold M_X9_expression_L12
  rw [if_neg n10, h, if_neg z00]
  rfl
theorem mbL_F {τ : Wd} {v : Int32} (h : gI τ 0 13 ≠ 0) : mbL (v, τ) = some (.inr (.inr τ)) := by
  show M_X9_expression_L12 0 v τ = _
  unfold M_X9_expression_L12
  by_cases hv : v = 0
  · rw [if_pos hv]
  · rw [if_neg hv, if_pos h]
theorem cbL_F {σ : Wd} {v v2 v3 v4 v5 : Int32} {n : Nat} (h : gI σ 2 7 ≠ 0) : iter (cbL v) (n + 1) (v2, v3, v4, v5, σ) = some σ := by
  refine it_x ?_
  show M_X3_takeExpression_L31 v v2 v3 v4 v5 σ = _
  unfold M_X3_takeExpression_L31
  by_cases h1 : (400 : Int32) < v5
  · rw [if_pos h1]
  · rw [if_neg h1]
    by_cases h2 : v4 = 0
    · rw [if_pos h2]
    · rw [if_neg h2, if_pos h]
theorem FLT.ne {g l : Nat} {σ0 τ0 σ τ : Wd} (h : FLT g l σ0 τ0 σ τ) : gI σ 2 7 ≠ 0 ∧ gI τ 0 13 ≠ 0 ∧ ¬ gI τ 0 13 ≤ 0 := by
  obtain ⟨σf, τf, _, _, _, _, q5, q6⟩ := h
  exact ⟨q5.2.1, (pos_ne q6.2.1).1, (pos_ne q6.2.1).2⟩
/-- how an expression's loops end -/
def FinL (u : Nat → Nat) (e n0 g l P fl a nc : Nat) (σ0 τ0 σ1 τ1 σx : Wd) (x : Wd ⊕ Wd) : Prop :=
  (∃ τx P' fl' s w W cs, x = .inl τx ∧ P ≤ P' ∧ (fl' = 0 → fl = 0) ∧ EX u e n0 g l P' fl' a nc σ0 τ0 σ1 τ1 s w 0 1 W cs σx τx) ∨ (∃ τx w, finM x = some τx ∧ FLT g l σ0 τ0 σx τx ∧ w ≤ 32 ∧ gI σx 2 5 = nI w)
section EL
variable {u : Nat → Nat} {e n0 g l P fl a nc : Nat} {σ0 τ0 σ1 τ1 : Wd}
theorem FinL_F {σx τx : Wd} {w : Nat} (h : FLT g l σ0 τ0 σx τx) (hw : w ≤ 32) (h5 : gI σx 2 5 = nI w) : FinL u e n0 g l P fl a nc σ0 τ0 σ1 τ1 σx (.inr τx) := Or.inr ⟨τx, w, rfl, h, hw, h5⟩
theorem FinL_up {P' fl' : Nat} {σx : Wd} {x : Wd ⊕ Wd} (h : FinL u e n0 g l P' fl' a nc σ0 τ0 σ1 τ1 σx x) (hP : P ≤ P') (hf : fl' = 0 → fl = 0) : FinL u e n0 g l P fl a nc σ0 τ0 σ1 τ1 σx x := by
  rcases h with ⟨τx, P2, f2, s, w, W, cs, h1, h2, h3, h4⟩ | h
  · exact Or.inl ⟨τx, P2, f2, s, w, W, cs, h1, by omega, fun z => hf (h3 z), h4⟩
  · exact Or.inr h
end EL
