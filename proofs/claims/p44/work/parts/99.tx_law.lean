/-! the law said whole -/
section ST8
theorem un2_e {α β γ : Type} (f : α → β → γ) (a : α) (b : β) : un2 f (a, b) = f a b := rfl
variable {T : Td} {g : Gs} {un : Nat} {hs sl : Nat → Gs} {hl : Nat → Nat} {σ : Wd} {q : Lq}
theorem law_r (fu : Nat) (hf : 19 < fu) (hL : LQ T q) (h : At T g 0 hs sl hl σ) (hS : SI 0 g) : ∃ un' g' hs' σ', iter (fun s : Int32 × Int32 × Wd => M_L_law_L120 q (nI (tN T)) (nI (tC T)) s.1 s.2.1 s.2.2) fu ((1 : Int32), nI 10, σ) = some (1, σ') ∧ At T g' un' hs' sl hl σ' ∧ un' ≤ 19 ∧ SI 19 g' := s_loop hL 19 10 fu 0 g hs σ (Nat.le_refl _) rfl hf (Nat.zero_le _) hS h
theorem law_x {fu : Nat} {un' : Nat} {g' : Gs} {hs' : Nat → Gs} {σ' : Wd} (hL : LQ T q) (h1 : hl 1 = 0) (r1 : iter (fun s : Int32 × Int32 × Wd => M_L_law_L120 q (nI (tN T)) (nI (tC T)) s.1 s.2.1 s.2.2) fu ((1 : Int32), nI 10, σ) = some (1, σ')) (r2 : At T g' un' hs' sl hl σ') (r3 : un' ≤ 19) (r4 : SI 19 g') : ow (bnd1 (iter (fun s : Int32 × Int32 × Wd => M_L_law_L120 q (nI (tN T)) (nI (tC T)) s.1 s.2.1 s.2.2) fu ((1 : Int32), nI 10, σ)) (un2 fun x5_120 sx_120 => (M_L_law_J1933 q sx_120 x5_120 (nI (tN T)) (nI (tC T))))) Q1 := by
  rw [r1, bnd1_some, un2_e]
  exact f_1933 hL r2 h1 (by omega) (by have := r4.1; omega) (by have := r4.2.1; omega)
theorem law_y (fu : Nat) (hf : 19 < fu) (hL : LQ T q) (h : At T g 0 hs sl hl σ) (h1 : hl 1 = 0) (hS : SI 0 g) : ow (bnd1 (iter (fun s : Int32 × Int32 × Wd => M_L_law_L120 q (lZ q 0) (lZ q 1) s.1 s.2.1 s.2.2) fu ((1 : Int32), (10 : Int32), σ)) (un2 fun x5_120 sx_120 => (M_L_law_J1933 q sx_120 x5_120 (lZ q 0) (lZ q 1)))) Q1 := by
  obtain ⟨u2, g2, hs2, σ2, r1, r2, r3, r4⟩ := law_r fu hf hL h hS
  rw [hL.n, hL.c, ten_i]
  exact law_x hL h1 r1 r2 r3 r4
/-- THE LAW: from where nothing was done it says that all is well -/
theorem law_ok (hL : LQ T q) (h : At T g 0 hs sl hl σ) (h1 : hl 1 = 0) (hS : SI 0 g) : ow (M_L_law q σ 1) Q1 := by
  have hf : 19 < FU := FU_big (by decide)
  rw [law_e]
  generalize FU = fu at hf ⊢
  exact law_y fu hf hL h h1 hS
end ST8
