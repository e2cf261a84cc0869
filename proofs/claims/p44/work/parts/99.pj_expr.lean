/-! expressions: as a whole -/
section EX9
variable {u : Nat → Nat} {e n0 g l P fl a nc m mc : Nat} {NV NA : Nat → Nat} {σ0 τ0 σ τ : Wd}
/-- an expression on both sides, from its first token on -/
theorem expr_loop (he : e ≤ 2000) (hB : Bs u e n0 g l P fl 0 σ0 τ0 σ τ) (hN : Nm m mc nc fl NV NA σ τ) (h13 : gI σ g 13 = nI a) (h33 : gI τ 0 33 = nI (420 * l + a)) (h12 : gI τ 0 12 = 0) (h25 : gI σ 2 5 = 0) (h37 : gI τ 0 37 = 0) (haP : a < P) {v : Int32} : ∃ σx x, iter (cbL v) FU (0, 1, 1, 0, σ) = some σx ∧ iter mbL FU (1, τ) = some x ∧ FinL u e n0 g l P fl a nc σ0 τ0 σ τ σx x := by
  have h0 : EX u e n0 g l P fl a nc σ0 τ0 σ τ a 0 0 0 (fun _ => 6) [] σ τ := ⟨hB, ⟨h13, h33, h12, Nat.le_refl _, haP⟩, ⟨h25, h37, by omega, rfl, fun i hi => absurd hi (Nat.not_lt_zero i), fun k hk => by omega⟩, fun _ => ⟨rfl, fun i hi => absurd hi (Nat.not_lt_zero i), fun i hi => absurd hi (Nat.not_lt_zero i), rfl⟩, SEc.refl, SEm.refl⟩
  have hP := hB.1.2.1
  obtain ⟨A, _⟩ := loop_AB (u := u) (e := e) (n0 := n0) (g := g) (l := l) (a := a) (σ0 := σ0) (τ0 := τ0) he hN (v := v) (401 - P) (by omega)
  obtain ⟨σx, x, y1, y2, y3⟩ := A P fl a 0 0 0 FU FU 999999 _ _ _ _ (Nat.le_refl _) (by omega) (fun z => z) (by have := FU_big (n := 500) (by decide); omega) (by have := FU_big (n := 500) (by decide); omega) (by omega) h0
  refine ⟨σx, x, y1, ?_, y3⟩
  rw [show FU = 999999 + 1 from rfl, it_cnt, mbL_1 hB.2.2.1.2.2.1]
  exact y2
/-- what an expression leaves -/
def ExE (u : Nat → Nat) (e n0 g l P fl a nc v : Nat) (σ0 τ0 σ1 τ1 σ' τ' : Wd) : Prop := ∃ P' fl' s' cs, P ≤ P' ∧ Bs u e n0 g l P' fl' 0 σ0 τ0 σ' τ' ∧ gI σ' g 13 = nI s' ∧ gI τ' 0 33 = nI (420 * l + s') ∧ gI τ' 0 12 = 0 ∧ a ≤ s' ∧ s' < P' ∧ (fl' = 0 → fl = 0) ∧ (fl' = 0 → s' = a + cs.length ∧ CC cs a (gI σ' (g + 7)) (gI σ' (g + 8)) ∧ CM cs (420 * l + a) (gI τ' 20) (gI τ' 21) ∧ wfC nc cs 0) ∧ gI σ' (g + 6) v = nI s' ∧ (∃ σx, SEc g a σ1 σx ∧ σ' = uI σx (g + 6) v (nI s')) ∧ SEm l a τ1 τ'
theorem c_J196 (hv : n0 < 24) {σx σy : Wd} {r : Int32} (h : M_X3_letOut σx 1 = some σy) (h6 : gR σy 2 6 = g) (hg : g = 10 ∨ g = 19) (h13 : gI σy g 13 = r) : M_X3_takeExpression_J196 σx (nI n0) = some (uI σy (g + 6) n0 r) := by
  unfold M_X3_takeExpression_J196
  rw [h, bnd1_some, h6, chk_pos hg, chk_pos hg, chk_pos ((ib_nI (by omega)).mpr hv), ix_nI (by omega), h13]
  rfl
end EX9
