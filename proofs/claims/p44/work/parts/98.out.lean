/-! expressions: what comes out -/
section EO
variable {u : Nat → Nat} {e n0 g l P fl a nc : Nat} {σ0 τ0 σ1 τ1 : Wd}
theorem rkW_le {n : Nat} : rkW n ≤ 2 := by
  unfold rkW
  split
  · omega
  · split <;> omega
/-- all in hand -/
def EX (u : Nat → Nat) (e n0 g l P fl a nc : Nat) (σ0 τ0 σ1 τ1 : Wd) (s w d un : Nat) (W : Nat → Nat) (cs : List (Nat × Int32)) (σ τ : Wd) : Prop :=
  Bs u e n0 g l P fl 0 σ0 τ0 σ τ ∧ (gI σ g 13 = nI s ∧ gI τ 0 33 = nI (420 * l + s) ∧ gI τ 0 12 = nI d ∧ a ≤ s ∧ s + w < P) ∧ Wt W w d σ τ ∧ CP g l a nc fl s cs (w - d + un) σ τ ∧ SEc g a σ1 σ ∧ SEm l a τ1 τ
theorem pnN_s {W : Nat → Nat} {w : Nat} : pnN W (w + 1) = if W w = 6 then pnN W w + 1 else pnN W w := by
  show (if decide (W w = 6) = true then _ + 1 else _) = _
  by_cases h : W w = 6
  · rw [if_pos h, if_pos (decide_eq_true h)]; rfl
  · rw [if_neg h, if_neg (by rw [decide_eq_false h]; exact Bool.noConfusion)]; rfl
/-- one sign comes out -/
theorem EX.pop {s w d : Nat} {W : Nat → Nat} {cs : List (Nat × Int32)} {σ τ : Wd} (h : EX u e n0 g l P fl a nc σ0 τ0 σ1 τ1 s (w + 1) d 1 W cs σ τ) (h6 : W w ≠ 6) : EX u e n0 g l P fl a nc σ0 τ0 σ1 τ1 (s + 1) w d 1 W (cs ++ [(opc (W w), 0)]) (adC (uI σ 2 5 (nI w)) g s 5 (nI (ck (W w)))) (emM (uI τ 0 37 (nI w)) (420 * l + s) (nI (opc (W w))) 0) := by
  have hbd := Wt_bd h.2.2.1
  obtain ⟨hB, ⟨b1, b2, b3, b4, b5⟩, ⟨w1, w2, w3, w4, w5, w6⟩, hC, hS, hM⟩ := h
  have hg := hB.2.1.2.2.2.2.2.1
  have hl := hB.2.2.1.2.2.2.2.1
  have hP : P ≤ 400 := hB.1.2.1
  have hpn : pnN W w = d := by rw [pnN_s, if_neg h6] at w4; exact w4
  have hdw : d ≤ w := by rw [← hpn]; exact cnN_le _
  obtain ⟨o1, o2, o3, o4⟩ := ck_opc (w5 w (by omega)).1 h6 0
  unfold adC emM
  refine ⟨?_, ⟨gI_s, ?_, ?_, by omega, by omega⟩, ⟨?_, ?_, w3, hpn, fun i hi => ⟨(w5 i (by omega)).1, ?_, ?_⟩, fun k hk => w6 k (by omega)⟩, ?_, ?_, ?_⟩
  · exact Bs.wM (Bs.wM (Bs.wM (Bs.wM (Bs.wS (Bs.wC (Bs.wC (Bs.wC hB (Or.inl rfl) (fun _ => ⟨by decide, by decide, by decide⟩) (fun z => by omega)) (by omega) (fun z => by omega) (fun z => by omega)) (by omega) (fun z => by omega) (fun z => by omega)) (by omega)) (by unfold okm; omega) (fun _ => ⟨by decide, by decide, by decide, by decide⟩)) (by unfold okm; omega) (fun z => absurd z (by decide))) (by unfold okm; omega) (fun z => absurd z (by decide))) (by unfold okm; omega) (fun _ => ⟨by decide, by decide, by decide, by decide⟩)
  · rw [gI_s]; rfl
  · rw [gI_uI, if_neg (by omega), gI_uI, if_neg (by omega), gI_uI, if_neg (by omega), gI_uI, if_neg (by omega)]; exact b3
  · rw [gI_uI, if_neg (by omega), gI_uI, if_neg (by omega), gI_uI, if_neg (by omega), gI_s]
  · rw [gI_uI, if_neg (by omega), gI_uI, if_neg (by omega), gI_uI, if_neg (by omega), gI_s]
  · rw [gI_uI, if_neg (by omega), gI_uI, if_neg (by omega), gI_uI, if_neg (by omega), gI_uI, if_neg (by omega)]; exact (w5 i (by omega)).2.1
  · rw [gI_uI, if_neg (by omega), gI_uI, if_neg (by omega), gI_uI, if_neg (by omega), gI_uI, if_neg (by omega)]; exact (w5 i (by omega)).2.2
  · have hC2 : CP g l a nc fl s cs (w + 1 - d + 1) (uI σ 2 5 (nI w)) (uI τ 0 37 (nI w)) := CP_eq hC (by funext j; show gI (uI σ 2 5 (nI w)) (g + 7) j = _; rw [gI_uI, if_neg (by omega)]; rfl) (by funext j; show gI (uI σ 2 5 (nI w)) (g + 8) j = _; rw [gI_uI, if_neg (by omega)]; rfl) (by funext j; show gI (uI τ 0 37 (nI w)) 20 j = _; rw [gI_uI, if_neg (by omega)]; rfl) (by funext j; show gI (uI τ 0 37 (nI w)) 21 j = _; rw [gI_uI, if_neg (by omega)]; rfl)
    exact CP_emit hC2 (fun _ => ⟨o1, fun _ => o2, rfl, fun _ => rfl, by
      have := wfR_op (nc := nc) (D := w + 1 - d + 1) (k := opc (W w)) (v := 0) (by omega) o3 o4
      rw [show w + 1 - d + 1 - 1 = w - d + 1 by omega] at this
      exact this⟩)
  · exact SEc.wI (by omega) (SEc.wI (by omega) (SEc.wI (by omega) (SEc.wI (by omega) hS)))
  · exact SEm.wI (by unfold okE; omega) (SEm.wI (by unfold okE; omega) (SEm.wI (by unfold okE; omega) (SEm.wI (by unfold okE; omega) hM)))
/-- the signs of a rank come out on both sides -/
theorem EX.out {r : Nat} (hr : r = 1 ∨ r = 2) {v : Int32} (hv : v = if r = 2 then 1 else 0) {d : Nat} {W : Nat → Nat} : ∀ (w s n : Nat) (cs : List (Nat × Int32)) (σ τ : Wd), w < n → EX u e n0 g l P fl a nc σ0 τ0 σ1 τ1 s w d 1 W cs σ τ → ∃ s' w' cs' σ' τ', w' ≤ w ∧ iter (fun s : Wd => M_X3_letOut_L0 (nI r) s) n σ = some σ' ∧ (∃ x, iter (fun s : Wd => M_X9_comesOut_L0 v s) n τ = some x ∧ (x = .inl τ' ∨ x = .inr τ')) ∧ EX u e n0 g l P fl a nc σ0 τ0 σ1 τ1 s' w' d 1 W cs' σ' τ' ∧ (w' = 0 ∨ rkW (W (w' - 1)) < r) := by
  intro w
  induction w with
  | zero =>
    intro s n cs σ τ hn h
    obtain ⟨n', rfl⟩ : ∃ n', n = n' + 1 := ⟨n - 1, by omega⟩
    obtain ⟨w1, w2, _⟩ := h.2.2.1
    refine ⟨s, 0, cs, σ, τ, Nat.le_refl _, it_x ?_, ⟨.inl τ, it_x ?_, Or.inl rfl⟩, h, Or.inl rfl⟩
    · show M_X3_letOut_L0 (nI r) σ = _
      unfold M_X3_letOut_L0
      rw [w1, if_pos (by decide)]
    · show M_X9_comesOut_L0 v τ = _
      unfold M_X9_comesOut_L0
      rw [w2, if_pos (by decide)]
  | succ w ih =>
    intro s n cs σ τ hn h
    obtain ⟨n', rfl⟩ : ∃ n', n = n' + 1 := ⟨n - 1, by omega⟩
    have hbd := Wt_bd h.2.2.1
    have hP : P ≤ 400 := h.1.1.2.1
    have hg := h.1.2.1.2.2.2.2.2.1
    have hg6 : gR σ 2 6 = g := h.1.2.1.2.2.2.2.1
    have hl := h.1.2.2.1.2.2.2.2.1
    obtain ⟨b1, b2, _, _, b5⟩ := h.2.1
    obtain ⟨w1, w2, _, _, w5, _⟩ := h.2.2.1
    obtain ⟨x1, x2, x3⟩ := w5 w (by omega)
    have hrk : rkW (W w) ≤ 2 := rkW_le
    have stC : M_X3_letOut_L0 (nI r) σ = if rkW (W w) < r then some (.inr σ) else some (.inl (adC (uI σ 2 5 (nI w)) g s 5 (nI (ck (W w))))) := by
      unfold M_X3_letOut_L0
      rw [w1, if_neg (show ¬ nI (w + 1) ≤ 0 from fun z => by have := (nI_leI (b := 0) (by omega) (by omega)).mp z; omega), nI_p1 (by omega), show w + 1 - 1 = w by omega, chk_pos ((ib_nI (by omega)).mpr (by omega)), ix_nI (by omega), x2, rank_t x1, bnd1_some]
      by_cases q : rkW (W w) < r
      · rw [if_pos ((nI_ltI (by omega) (by omega)).mpr q), if_pos q]
      · rw [if_neg (fun z => q ((nI_ltI (by omega) (by omega)).mp z)), if_neg q]
        simp only [lt_eq]
        rw [show gR (uI σ 2 5 (nI w)) 2 6 = g from hg6, chk_pos hg, show gI (uI σ 2 5 (nI w)) 2 5 = nI w from gI_s, chk_pos ((ib_nI (by omega)).mpr (by omega)), ix_nI (by omega), show gI (uI σ 2 5 (nI w)) 5 w = nI (ck (W w)) by rw [gI_uI, if_neg (by omega)]; exact x2, c_add (s := s) (by rw [gI_uI, if_neg (by omega)]; exact b1) (by omega), bnd1_some]
    have stM : M_X9_comesOut_L0 v τ = if rkW (W w) < r then some (.inr (.inr τ)) else some (.inl (emM (uI τ 0 37 (nI w)) (420 * l + s) (nI (opc (W w))) 0)) := by
      have e33 : gI (uI τ 0 37 (nI w)) 0 33 = nI (420 * l + s) := by rw [gI_uI, if_neg (by omega)]; exact b2
      unfold M_X9_comesOut_L0 M_X9_comesOut_J42 M_X9_comesOut_J84
      rw [w2, if_neg (show ¬ nI (w + 1) ≤ 0 from fun z => by have := (nI_leI (b := 0) (by omega) (by omega)).mp z; omega), nI_p1 (by omega), show w + 1 - 1 = w by omega, chk_pos ((ib_nI (by omega)).mpr (by omega)), ix_nI (by omega), x3]
      simp only [lt_eq]
      have em : ∀ t0, bnd1 (M_X9_emit (uI τ 0 37 (nI w)) t0 0) (fun s_85 => (some (.inl s_85) : Option (Wd ⊕ (Wd ⊕ Wd)))) = some (.inl (emM (uI τ 0 37 (nI w)) (420 * l + s) t0 0)) := fun t0 => by
        rw [m_emit e33 (by omega), bnd1_some]
      rw [em, em, em, em, hv]
      rcases hr with rfl | rfl <;> rcases x1 with z | z | z | z | z <;> rw [z] <;> rfl
    by_cases q : rkW (W w) < r
    · rw [if_pos q] at stC stM
      exact ⟨s, w + 1, cs, σ, τ, Nat.le_refl _, it_x stC, ⟨.inr τ, it_x stM, Or.inr rfl⟩, h, Or.inr (by rw [show w + 1 - 1 = w by omega]; exact q)⟩
    · rw [if_neg q] at stC stM
      have h6 : W w ≠ 6 := fun z => q (by rw [z]; show 0 < r; omega)
      obtain ⟨s', w', cs', σ', τ', y1, y2, y3, y4, y5⟩ := ih (s + 1) n' _ _ _ (by omega) (h.pop h6)
      obtain ⟨x, z1, z2⟩ := y3
      exact ⟨s', w', cs', σ', τ', by omega, (it_s stC).trans y2, ⟨x, (it_s stM).trans z1, z2⟩, y4, y5⟩
theorem EX.outs {r : Nat} (hr : r = 1 ∨ r = 2) {v : Int32} (hv : v = if r = 2 then 1 else 0) {s w d : Nat} {W : Nat → Nat} {cs : List (Nat × Int32)} {σ τ : Wd} (h : EX u e n0 g l P fl a nc σ0 τ0 σ1 τ1 s w d 1 W cs σ τ) : ∃ s' w' cs' σ' τ', w' ≤ w ∧ M_X3_letOut σ (nI r) = some σ' ∧ M_X9_comesOut τ v = some τ' ∧ EX u e n0 g l P fl a nc σ0 τ0 σ1 τ1 s' w' d 1 W cs' σ' τ' ∧ (w' = 0 ∨ rkW (W (w' - 1)) < r) := by
  have hbd := Wt_bd h.2.2.1
  obtain ⟨s', w', cs', σ', τ', y1, y2, ⟨x, y3, y4⟩, y5, y6⟩ := EX.out hr hv w s FU cs σ τ (FU_big (by omega)) h
  refine ⟨s', w', cs', σ', τ', y1, ?_, ?_, y5, y6⟩
  · unfold M_X3_letOut
    rw [y2, bnd1_some]
    rfl
  · unfold M_X9_comesOut
    rw [y3, bnd1_some]
    rcases y4 with z | z <;> rw [z] <;> rfl
end EO
