/-! one thing told after the other -/
def tellC (σ : Wd) (r : Int32) : Option Wd := if r ≠ (102 : Int32) then (if r ≠ (103 : Int32) then M_X3_tellNumber σ r else M_X3_tellForm σ) else M_X3_tellCell σ
section LP
variable {u : Nat → Nat} {e n0 g l P fl s c f : Nat} {NV NA : Nat → Nat} {σ0 τ0 σ τ : Wd}
theorem top_one (he : e ≤ 2000) (h : Top u e n0 g l P fl s c f NV NA σ0 τ0 σ τ) : ∃ σ' τ', tellC σ (nI (ck (kTk u e P))) = some σ' ∧ M_X9_tellOne τ = some τ' ∧ TopX u e n0 g l P σ0 τ0 σ' τ' := by
  have hB := h.1
  have hP := hB.1.2.1
  have h11 := hB.2.2.1.2.1
  obtain ⟨_, _, _, _, m3, _⟩ := hB.row
  have hv := (kTk_VK (u := u) (e := e) (k := P)).1
  have hvl := VK_lt hv
  have ne : ∀ a, VK a → kTk u e P ≠ a → nI (ck (kTk u e P)) ≠ nI (ck a) := fun a ha hn z => hn ((ck_eq hv ha).mp z)
  have nm : ∀ a, a < 31 → kTk u e P ≠ a → nI (kTk u e P) ≠ nI a := fun a ha hn z => hn ((nI_eq (by omega) (by omega)).mp z)
  unfold M_X9_tellOne
  rw [h11, chk_pos ((ib_nI (by omega)).mpr (by omega)), ix_nI (by omega), m3]
  by_cases k20 : kTk u e P = 20
  · obtain ⟨σ', τ', q1, q2, q3⟩ := top_number he (Or.inl ⟨rfl, rfl, rfl, rfl, rfl⟩) h k20
    refine ⟨σ', τ', ?_, ?_, q3⟩
    · rw [k20]; unfold tellC
      rw [if_pos (show nI (ck 20) ≠ 102 by decide), if_pos (show nI (ck 20) ≠ 103 by decide)]
      exact q1
    · rw [if_pos (show nI (kTk u e P) = 20 by rw [k20]; rfl)]
      exact q2
  · rw [if_neg (show ¬ nI (kTk u e P) = 20 from nm 20 (by decide) k20)]
    by_cases k21 : kTk u e P = 21
    · obtain ⟨σ', τ', q1, q2, q3⟩ := top_number he (Or.inr (Or.inl ⟨rfl, rfl, rfl, rfl, rfl⟩)) h k21
      refine ⟨σ', τ', ?_, ?_, q3⟩
      · rw [k21]; unfold tellC
        rw [if_pos (show nI (ck 21) ≠ 102 by decide), if_pos (show nI (ck 21) ≠ 103 by decide)]
        exact q1
      · rw [if_pos (show nI (kTk u e P) = 21 by rw [k21]; rfl)]
        exact q2
    · rw [if_neg (show ¬ nI (kTk u e P) = 21 from nm 21 (by decide) k21)]
      by_cases k22 : kTk u e P = 22
      · obtain ⟨σ', τ', q1, q2, q3⟩ := top_cell he h k22
        refine ⟨σ', τ', ?_, ?_, q3⟩
        · rw [k22]; unfold tellC
          rw [if_neg (show ¬ nI (ck 22) ≠ 102 by decide)]
          exact q1
        · rw [if_pos (show nI (kTk u e P) = 22 by rw [k22]; rfl)]
          exact q2
      · rw [if_neg (show ¬ nI (kTk u e P) = 22 from nm 22 (by decide) k22)]
        by_cases k23 : kTk u e P = 23
        · obtain ⟨σ', τ', q1, q2, q3⟩ := top_form he h k23
          refine ⟨σ', τ', ?_, ?_, q3⟩
          · rw [k23]; unfold tellC
            rw [if_pos (show nI (ck 23) ≠ 102 by decide), if_neg (show ¬ nI (ck 23) ≠ 103 by decide)]
            exact q1
          · rw [if_pos (show nI (kTk u e P) = 23 by rw [k23]; rfl)]
            exact q2
        · rw [if_neg (show ¬ nI (kTk u e P) = 23 from nm 23 (by decide) k23)]
          by_cases k27 : kTk u e P = 27
          · obtain ⟨σ', τ', q1, q2, q3⟩ := top_number he (Or.inr (Or.inr ⟨rfl, rfl, rfl, rfl, rfl⟩)) h k27
            refine ⟨σ', τ', ?_, ?_, q3⟩
            · rw [k27]; unfold tellC
              rw [if_pos (show nI (ck 27) ≠ 102 by decide), if_pos (show nI (ck 27) ≠ 103 by decide)]
              exact q1
            · rw [if_pos (show nI (kTk u e P) = 27 by rw [k27]; rfl)]
              exact q2
          · rw [if_neg (show ¬ nI (kTk u e P) = 27 from nm 27 (by decide) k27)]
            obtain ⟨f1, f2⟩ := b_fail hB (f := 1) (Or.inl rfl)
            have f1 : M_X3_fail σ 1 = _ := f1
            have f2 : M_X9_fail τ 1 = _ := f2
            refine ⟨_, _, ?_, by rw [f2, bnd1_some], Or.inl (hB.fault (Or.inl rfl))⟩
            unfold tellC M_X3_tellNumber
            rw [if_pos (show nI (ck (kTk u e P)) ≠ 102 from ne 22 (by decide) k22), if_pos (show nI (ck (kTk u e P)) ≠ 103 from ne 23 (by decide) k23), if_neg (show ¬ nI (ck (kTk u e P)) = 100 from ne 20 (by decide) k20), if_neg (show ¬ nI (ck (kTk u e P)) = 101 from ne 21 (by decide) k21), if_neg (show ¬ nI (ck (kTk u e P)) = 107 from ne 27 (by decide) k27), f1, bnd1_some]
/-- what the telling leaves -/
def LpE (u : Nat → Nat) (e n0 g l : Nat) (σ0 τ0 σ τ : Wd) : Prop := FLT g l σ0 τ0 σ τ ∨ ∃ P fl s c f NV NA, kTk u e P = 0 ∧ Top u e n0 g l P fl s c f NV NA σ0 τ0 σ τ
theorem tell_loop (he : e ≤ 2000) {v : Int32} : ∀ m P v4 n1 n2 fl s c f NV NA σ τ, 401 - P ≤ m → v4 ≤ P → 401 - P < n1 → 401 - P < n2 → Top u e n0 g l P fl s c f NV NA σ0 τ0 σ τ → ∃ σ' τ', iter (fun s : Int32 × Wd => M_X3_readInto_L49 g v s.1 s.2) n1 (nI v4, σ) = some σ' ∧ iter (fun s : Wd => M_X9_read_L100 s) n2 τ = some τ' ∧ LpE u e n0 g l σ0 τ0 σ' τ' := by
  intro m
  induction m with
  | zero =>
    intro P v4 n1 n2 fl s c f NV NA σ τ hm hv h1 h2 h
    have := h.1.1.2.1
    omega
  | succ m ih =>
    intro P v4 n1 n2 fl s c f NV NA σ τ hm hv h1 h2 h
    have hB := h.1
    have hP := hB.1.2.1
    have h27 := hB.2.1.2.2.2.1
    have h13 := hB.2.2.1.2.2.1
    obtain ⟨st, kd⟩ := b_start hB
    have is0 := b_is hB (k := 0) (by decide)
    have is0 : M_X9_is τ 0 = _ := is0
    obtain ⟨n1, rfl⟩ : ∃ k, n1 = k + 1 := ⟨n1 - 1, by omega⟩
    obtain ⟨n2, rfl⟩ : ∃ k, n2 = k + 1 := ⟨n2 - 1, by omega⟩
    have eC : M_X3_readInto_L49 g v (nI v4) σ = if nI (ck (kTk u e P)) = 0 then some (.inr σ) else bnd1 (tellC σ (nI (ck (kTk u e P)))) fun s_1 => some (.inl (nI (v4 + 1), s_1)) := by
      unfold M_X3_readInto_L49 tellC
      simp only [lt_eq]
      rw [if_neg (show ¬ (400 : Int32) < nI v4 from fun z => by have := (nI_ltI (a := 400) (by omega) (by omega)).mp z; omega), h27, if_neg z00, kd, bnd1_some, bnd1_some, nI_1]
      by_cases a : nI (ck (kTk u e P)) = 0
      · rw [if_pos a, if_pos a]
      · rw [if_neg a, if_neg a]
        by_cases b : nI (ck (kTk u e P)) ≠ 102
        · rw [if_pos b, if_pos b]
          by_cases b' : nI (ck (kTk u e P)) ≠ 103
          · rw [if_pos b', if_pos b']
          · rw [if_neg b', if_neg b']
        · rw [if_neg b, if_neg b]
    have eM : M_X9_read_L100 τ = if boI (decide (kTk u e P = 0)) ≠ 0 then some (.inr τ) else bnd1 (M_X9_tellOne τ) fun s_116 => some (.inl s_116) := by
      unfold M_X9_read_L100
      rw [h13, if_neg z00, is0, bnd1_some]
    by_cases k0 : kTk u e P = 0
    · rw [k0, if_pos (show nI (ck 0) = 0 from rfl)] at eC
      rw [decide_eq_true k0, if_pos (show boI true ≠ 0 by decide)] at eM
      exact ⟨σ, τ, it_x (body := fun s : Int32 × Wd => M_X3_readInto_L49 g v s.1 s.2) eC, it_x (body := fun s : Wd => M_X9_read_L100 s) eM, Or.inr ⟨P, fl, s, c, f, NV, NA, k0, h⟩⟩
    · have hv0 := (kTk_VK (u := u) (e := e) (k := P)).1
      rw [if_neg (show ¬ nI (ck (kTk u e P)) = 0 from fun z => k0 ((ck_eq hv0 (b := 0) (by decide)).mp z))] at eC
      rw [decide_eq_false k0, if_neg (show ¬ boI false ≠ 0 by decide)] at eM
      obtain ⟨σ1, τ1, q1, q2, q3⟩ := top_one he h
      rw [q1, bnd1_some] at eC
      rw [q2, bnd1_some] at eM
      rw [it_s (body := fun s : Int32 × Wd => M_X3_readInto_L49 g v s.1 s.2) eC, it_s (body := fun s : Wd => M_X9_read_L100 s) eM]
      rcases q3 with ⟨σf, τf, w1, w2, w3, w4, w5, w6⟩ | ⟨P', fl', s', c', f', NV', NA', hP', h'⟩
      · obtain ⟨n1, rfl⟩ : ∃ k, n1 = k + 1 := ⟨n1 - 1, by omega⟩
        obtain ⟨n2, rfl⟩ : ∃ k, n2 = k + 1 := ⟨n2 - 1, by omega⟩
        have xC : M_X3_readInto_L49 g v (nI (v4 + 1)) σ1 = some (.inr σ1) := by
          unfold M_X3_readInto_L49
          by_cases a : (400 : Int32) < nI (v4 + 1)
          · rw [if_pos a]
          · rw [if_neg a, if_pos w5.2.1]
        have xM : M_X9_read_L100 τ1 = some (.inr τ1) := by
          unfold M_X9_read_L100
          rw [if_pos (pos_ne w6.2.1).1]
        exact ⟨σ1, τ1, it_x (body := fun s : Int32 × Wd => M_X3_readInto_L49 g v s.1 s.2) xC, it_x (body := fun s : Wd => M_X9_read_L100 s) xM, Or.inl ⟨σf, τf, w1, w2, w3, w4, w5, w6⟩⟩
      · exact ih P' (v4 + 1) n1 n2 fl' s' c' f' NV' NA' σ1 τ1 (by omega) (by omega) (by omega) (by omega) h'
end LP
