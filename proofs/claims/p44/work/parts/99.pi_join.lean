/-! expressions: the loop, joined -/
section EJ
variable {u : Nat → Nat} {e n0 g l a nc fl1 m mc : Nat} {NV NA : Nat → Nat} {σ0 τ0 σ1 τ1 : Wd}
theorem loop_AB (he : e ≤ 2000) (hN : Nm m mc nc fl1 NV NA σ1 τ1) {v : Int32} : ∀ k, k ≤ 401 →
    (∀ P fl s w d v5 n n1 n2 W cs σ τ, 401 - P ≤ k → v5 + 1 ≤ P → (fl = 0 → fl1 = 0) → k + 2 ≤ n → k + 2 ≤ n1 → k + 2 ≤ n2 → EX u e n0 g l P fl a nc σ0 τ0 σ1 τ1 s w d 0 W cs σ τ → ∃ σx x, iter (cbL v) n (nI d, 1, 1, nI v5, σ) = some σx ∧ cntL n2 (B23 n1 τ) = some x ∧ FinL u e n0 g l P fl a nc σ0 τ0 σ1 τ1 σx x) ∧
    (∀ P fl s w d v5 n n3 n2 W cs σ τ, 401 - P ≤ k → v5 + 1 ≤ P → (fl = 0 → fl1 = 0) → k + 2 ≤ n → k + 2 ≤ n3 → k + 2 ≤ n2 → EX u e n0 g l P fl a nc σ0 τ0 σ1 τ1 s w d 1 W cs σ τ → ∃ σx x, iter (cbL v) n (nI d, 0, 1, nI v5, σ) = some σx ∧ cntL n2 (B96 n3 τ) = some x ∧ FinL u e n0 g l P fl a nc σ0 τ0 σ1 τ1 σx x) := by
  intro k
  have big : ∀ {j : Nat}, j ≤ 401 → j + 2 ≤ FU := fun h => by have := FU_big (n := 500) (by decide); omega
  induction k with
  | zero =>
    intro _
    refine ⟨fun P fl s w d v5 n n1 n2 W cs σ τ hk => ?_, fun P fl s w d v5 n n3 n2 W cs σ τ hk => ?_⟩
    · intro _ _ _ _ _ h
      have := h.1.1.2.1
      omega
    · intro _ _ _ _ _ h
      have := h.1.1.2.1
      omega
  | succ k ih =>
    intro hk4
    obtain ⟨ihA, ihB⟩ := ih (by omega)
    refine ⟨fun P fl s w d v5 n n1 n2 W cs σ τ hk hv hf hn hn1 hn2 h => ?_, fun P fl s w d v5 n n3 n2 W cs σ τ hk hv hf hn hn3 hn2 h => ?_⟩
    · have hP := h.1.1.2.1
      have hg := h.1.2.1.2.2.2.2.2.1
      obtain ⟨n', rfl⟩ : ∃ n', n = n' + 1 := ⟨n - 1, by omega⟩
      obtain ⟨n1', rfl⟩ : ∃ n1', n1 = n1' + 1 := ⟨n1 - 1, by omega⟩
      refine loop_A he h (Nm_SE hN h.2.2.2.2.1 h.2.2.2.2.2 hg hf) (by omega) (by omega) (by omega) (fun w' d' W' σ' τ' h' => ?_) (fun fl' s' cs' σ' τ' hf' h' => ?_)
      · exact ihA (P + 1) fl s w' d' (v5 + 1) n' n1' n2 W' cs σ' τ' (by omega) (by omega) hf (by omega) (by omega) (by omega) h'
      · exact ihB (P + 1) fl' s' w d (v5 + 1) n' FU n2 W cs' σ' τ' (by omega) (by omega) (fun z => hf (hf' z)) (by omega) (big (by omega)) (by omega) h'
    · have hP := h.1.1.2.1
      obtain ⟨n', rfl⟩ : ∃ n', n = n' + 1 := ⟨n - 1, by omega⟩
      obtain ⟨n3', rfl⟩ : ∃ n3', n3 = n3' + 1 := ⟨n3 - 1, by omega⟩
      obtain ⟨n2', rfl⟩ : ∃ n2', n2 = n2' + 1 := ⟨n2 - 1, by omega⟩
      refine loop_B h (by omega) (by omega) (by omega) (fun s' w' W' cs' σ' τ' h' => ?_) (fun s' w' d' W' cs' σ' τ' h' => ?_)
      · exact ihA (P + 1) fl s' w' d (v5 + 1) n' FU n2' W' cs' σ' τ' (by omega) (by omega) hf (by omega) (big (by omega)) (by omega) h'
      · exact ihB (P + 1) fl s' w' d' (v5 + 1) n' n3' (n2' + 1) W' cs' σ' τ' (by omega) (by omega) hf (by omega) (by omega) (by omega) h'
end EJ
