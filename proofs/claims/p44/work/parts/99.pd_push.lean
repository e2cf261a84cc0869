/-! expressions: signs put off, parentheses closed -/
section EP
variable {u : Nat → Nat} {e n0 g l P fl a nc : Nat} {σ0 τ0 σ1 τ1 : Wd}
def Wu (W : Nat → Nat) (w K : Nat) : Nat → Nat := fun i => if i = w then K else W i
theorem pnN_u {W : Nat → Nat} {w K : Nat} : ∀ k, k ≤ w → pnN (Wu W w K) k = pnN W k := fun k hk => cnN_eq k (fun i hi => by
  show decide (Wu W w K i = 6) = decide (W i = 6)
  unfold Wu
  rw [if_neg (by omega)])
theorem trW_u {W : Nat → Nat} {w K k : Nat} (hk : k ≤ w) : trW (Wu W w K) k = trW W k := by
  unfold trW Wu
  by_cases h : k = 0
  · rw [if_pos h, if_pos h]
  · rw [if_neg h, if_neg h, if_neg (show ¬ k - 1 = w by omega)]
/-- put off: both rows -/
theorem Wt_push {W : Nat → Nat} {w d K : Nat} {σ τ σ' τ' : Wd} (h : Wt W w d σ τ) (hK : opK K) (hd : (if K = 6 then d + 1 else d) ≤ 6) (hr : K = 6 ∨ trW W w < rkW K) (c1 : gI σ' 2 5 = nI (w + 1)) (c2 : gI τ' 0 37 = nI (w + 1)) (c3 : ∀ i, gI σ' 5 i = if i = w then nI (ck K) else gI σ 5 i) (c4 : ∀ i, gI τ' 22 i = if i = w then nI K else gI τ 22 i) : Wt (Wu W w K) (w + 1) (if K = 6 then d + 1 else d) σ' τ' := by
  obtain ⟨w1, w2, w3, w4, w5, w6⟩ := h
  have eK : Wu W w K w = K := if_pos rfl
  have ePn : pnN (Wu W w K) (w + 1) = if K = 6 then d + 1 else d := by
    rw [pnN_s, eK, pnN_u w (Nat.le_refl _), w4]
  refine ⟨c1, c2, hd, ePn, fun i hi => ?_, fun k hk => ?_⟩
  · rw [c3, c4]
    unfold Wu
    by_cases e0 : i = w
    · rw [if_pos e0, if_pos e0, if_pos e0]
      exact ⟨hK, rfl, rfl⟩
    · rw [if_neg e0, if_neg e0, if_neg e0]
      exact w5 i (by omega)
  · by_cases e0 : k = w + 1
    · rw [e0, ePn]
      have t1 : trW (Wu W w K) (w + 1) = rkW K := by
        unfold trW
        rw [if_neg (by omega), Nat.add_sub_cancel, eK]
      rw [t1]
      have h6 := w6 w (Nat.le_refl _)
      have h2 := trW_le (W := W) (k := w)
      rw [w4] at h6
      rcases hr with z | z
      · rw [if_pos z]; omega
      · by_cases q : K = 6
        · rw [if_pos q]; omega
        · rw [if_neg q]; omega
    · rw [pnN_u k (by omega), trW_u (by omega)]
      exact w6 k (by omega)
def puC (σ : Wd) (w : Nat) (v : Int32) : Wd := uI (uI σ 5 w v) 2 5 (nI (w + 1))
def puM (τ : Wd) (w : Nat) (v : Int32) : Wd := uI (uI τ 22 w v) 0 37 (nI (w + 1))
theorem c_put {σ : Wd} {w : Nat} {v : Int32} (h : gI σ 2 5 = nI w) (hw : w < 32) : M_X3_putOff σ v = some (puC σ w v) := by
  unfold M_X3_putOff puC
  rw [h, if_neg (show ¬ (32 : Int32) ≤ nI w from fun z => by have := (nI_leI (a := 32) (by omega) (by omega)).mp z; omega), chk_pos ((ib_nI (by omega)).mpr hw), ix_nI (by omega)]
  simp only [lt_eq]
  rw [show gI (uI σ 5 w v) 2 5 = nI w by rw [gI_uI, if_neg (by omega)]; exact h, nI_1]
/-- a change of what waits, and the token passed -/
theorem EX.wait {s w d un w' d' un' : Nat} {W W' : Nat → Nat} {cs : List (Nat × Int32)} {σ τ σ' τ' : Wd} (h : EX u e n0 g l P fl a nc σ0 τ0 σ1 τ1 s w d un W cs σ τ) (hB : Bs u e n0 g l (P + 1) fl 0 σ0 τ0 σ' τ') (hw : s + w' < P + 1) (hD : w' - d' + un' = w - d + un) (hσ : ∀ c j, ¬ (c = 2 ∧ j = 5) → c ≠ 5 → ¬ (c = 6 ∧ j = 4) → gI σ' c j = gI σ c j) (hσ2 : σ'.2 = σ.2) (hτ : ∀ c j, ¬ (c = 0 ∧ (j = 37 ∨ j = 11 ∨ j = 12)) → c ≠ 22 → gI τ' c j = gI τ c j) (hτ2 : τ'.2 = τ.2) (c5 : gI τ' 0 12 = nI d') (hW : Wt W' w' d' σ' τ') : EX u e n0 g l (P + 1) fl a nc σ0 τ0 σ1 τ1 s w' d' un' W' cs σ' τ' := by
  obtain ⟨hB0, ⟨b1, b2, b3, b4, b5⟩, _, hCP, hS, hSM⟩ := h
  have hg := hB0.2.1.2.2.2.2.2.1
  have hl := hB0.2.2.1.2.2.2.2.1
  refine ⟨hB, ⟨(hσ _ _ (by omega) (by omega) (by omega)).trans b1, (hτ _ _ (by omega) (by omega)).trans b2, c5, b4, hw⟩, hW, ?_, ⟨fun c j x1 x2 x3 x4 x5 => (hσ c j (by omega) x2 x3).trans (hS.1 c j x1 x2 x3 x4 x5), hσ2.trans hS.2⟩, ⟨fun c j x => (hτ c j (by unfold okE at x; omega) (by unfold okE at x; omega)).trans (hSM.1 c j x), hτ2.trans hSM.2⟩⟩
  rw [hD]
  exact CP_eq hCP (funext fun j => hσ _ _ (by omega) (by omega) (by omega)) (funext fun j => hσ _ _ (by omega) (by omega) (by omega)) (funext fun j => hτ _ _ (by omega) (by omega)) (funext fun j => hτ _ _ (by omega) (by omega))
/-- a sign put off and passed -/
theorem EX.sign {s w d K : Nat} {W : Nat → Nat} {cs : List (Nat × Int32)} {σ τ : Wd} (h : EX u e n0 g l P fl a nc σ0 τ0 σ1 τ1 s w d 1 W cs σ τ) (hP : P < 400) (hK0 : kTk u e P = K) (hK : opK K) (h6 : K ≠ 6) (hr : trW W w < rkW K) : EX u e n0 g l (P + 1) fl a nc σ0 τ0 σ1 τ1 s (w + 1) d 0 (Wu W w K) cs (uI (puC σ w (nI (ck K))) 6 4 (nI (P + 1))) (uI (puM τ w (nI K)) 0 11 (nI (P + 1))) := by
  have hbd := Wt_bd h.2.2.1
  have hB := h.1
  have b3 := h.2.1.2.2.1
  have b5 := h.2.1.2.2.2.2
  have hd6 := h.2.2.1.2.2.1
  have hB2 : Bs u e n0 g l P fl 0 σ0 τ0 (puC σ w (nI (ck K))) (puM τ w (nI K)) := by
    have hg := hB.2.1.2.2.2.2.2.1
    unfold puC puM
    exact Bs.wM (Bs.wM (Bs.wC (Bs.wC hB (by omega) (fun z => by omega) (fun z => by omega)) (by omega) (fun z => ⟨by decide, by decide, by decide⟩) (fun z => by omega)) (by unfold okm; omega) (fun z => absurd z (by decide))) (by unfold okm; omega) (fun _ => ⟨by decide, by decide, by decide, by decide⟩)
  have hW := Wt_push (σ' := uI (puC σ w (nI (ck K))) 6 4 (nI (P + 1))) (τ' := uI (puM τ w (nI K)) 0 11 (nI (P + 1))) h.2.2.1 hK (by rw [if_neg h6]; exact hd6) (Or.inr hr) (by unfold puC; rw [gI_uI, if_neg (by omega), gI_s]) (by unfold puM; rw [gI_uI, if_neg (by omega), gI_s]) (fun i => by
    unfold puC
    rw [gI_uI, if_neg (by omega), gI_uI, if_neg (by omega), gI_uI]
    by_cases e0 : i = w
    · rw [if_pos ⟨rfl, e0⟩, if_pos e0]
    · rw [if_neg (fun z => e0 z.2), if_neg e0]) (fun i => by
    unfold puM
    rw [gI_uI, if_neg (by omega), gI_uI, if_neg (by omega), gI_uI]
    by_cases e0 : i = w
    · rw [if_pos ⟨rfl, e0⟩, if_pos e0]
    · rw [if_neg (fun z => e0 z.2), if_neg e0])
  rw [if_neg h6] at hW
  refine h.wait (hB2.adv (by rw [hK0]; omega) hP) (by omega) (by omega) (fun c j x1 x2 x3 => ?_) rfl (fun c j x1 x2 => ?_) rfl ?_ hW
  · unfold puC; rw [gI_uI, if_neg x3, gI_uI, if_neg x1, gI_uI, if_neg (fun z => x2 z.1)]
  · unfold puM; rw [gI_uI, if_neg (by omega), gI_uI, if_neg (by omega), gI_uI, if_neg (fun z => x2 z.1)]
  · unfold puM; rw [gI_uI, if_neg (by omega), gI_uI, if_neg (by omega), gI_uI, if_neg (by omega)]; exact b3
/-- a parenthesis put off and passed: in the model's order -/
theorem EX.paren {s w d : Nat} {W : Nat → Nat} {cs : List (Nat × Int32)} {σ τ : Wd} (h : EX u e n0 g l P fl a nc σ0 τ0 σ1 τ1 s w d 0 W cs σ τ) (hP : P < 400) (hK0 : kTk u e P = 6) (hd : d < 6) : EX u e n0 g l (P + 1) fl a nc σ0 τ0 σ1 τ1 s (w + 1) (d + 1) 0 (Wu W w 6) cs (uI (puC σ w (nI (ck 6))) 6 4 (nI (P + 1))) (puM (uI (uI τ 0 12 (nI (d + 1))) 0 11 (nI (P + 1))) w (nI 6)) := by
  have hbd := Wt_bd h.2.2.1
  have hB := h.1
  have b5 := h.2.1.2.2.2.2
  have hB2 : Bs u e n0 g l P fl 0 σ0 τ0 (puC σ w (nI (ck 6))) (uI τ 0 12 (nI (d + 1))) := by
    have hg := hB.2.1.2.2.2.2.2.1
    unfold puC
    exact Bs.wM (Bs.wC (Bs.wC hB (by omega) (fun z => by omega) (fun z => by omega)) (by omega) (fun z => ⟨by decide, by decide, by decide⟩) (fun z => by omega)) (by unfold okm; omega) (fun _ => ⟨by decide, by decide, by decide, by decide⟩)
  have hB3 : Bs u e n0 g l (P + 1) fl 0 σ0 τ0 (uI (puC σ w (nI (ck 6))) 6 4 (nI (P + 1))) (puM (uI (uI τ 0 12 (nI (d + 1))) 0 11 (nI (P + 1))) w (nI 6)) := by
    unfold puM
    exact Bs.wM (Bs.wM (hB2.adv (by rw [hK0]; decide) hP) (by unfold okm; omega) (fun z => absurd z (by decide))) (by unfold okm; omega) (fun _ => ⟨by decide, by decide, by decide, by decide⟩)
  have hW := Wt_push (K := 6) (σ' := uI (puC σ w (nI (ck 6))) 6 4 (nI (P + 1))) (τ' := puM (uI (uI τ 0 12 (nI (d + 1))) 0 11 (nI (P + 1))) w (nI 6)) h.2.2.1 (Or.inl rfl) (by rw [if_pos rfl]; omega) (Or.inl rfl) (by unfold puC; rw [gI_uI, if_neg (by omega), gI_s]) (by unfold puM; rw [gI_s]) (fun i => by
    unfold puC
    rw [gI_uI, if_neg (by omega), gI_uI, if_neg (by omega), gI_uI]
    by_cases e0 : i = w
    · rw [if_pos ⟨rfl, e0⟩, if_pos e0]
    · rw [if_neg (fun z => e0 z.2), if_neg e0]) (fun i => by
    unfold puM
    rw [gI_uI, if_neg (by omega), gI_uI]
    by_cases e0 : i = w
    · rw [if_pos ⟨rfl, e0⟩, if_pos e0]
    · rw [if_neg (fun z => e0 z.2), if_neg e0, gI_uI, if_neg (by omega), gI_uI, if_neg (by omega)])
  rw [if_pos rfl] at hW
  refine h.wait hB3 (by omega) (by omega) (fun c j x1 x2 x3 => ?_) rfl (fun c j x1 x2 => ?_) rfl ?_ hW
  · unfold puC; rw [gI_uI, if_neg x3, gI_uI, if_neg x1, gI_uI, if_neg (fun z => x2 z.1)]
  · unfold puM; rw [gI_uI, if_neg (by omega), gI_uI, if_neg (fun z => x2 z.1), gI_uI, if_neg (by omega), gI_uI, if_neg (by omega)]
  · unfold puM; rw [gI_uI, if_neg (by omega), gI_uI, if_neg (by omega), gI_uI, if_neg (by omega), gI_s]
/-- a parenthesis closed -/
theorem EX.shut {s w d : Nat} {W : Nat → Nat} {cs : List (Nat × Int32)} {σ τ : Wd} (h : EX u e n0 g l P fl a nc σ0 τ0 σ1 τ1 s (w + 1) (d + 1) 1 W cs σ τ) (hP : P < 400) (hK0 : kTk u e P = 7) (h6 : W w = 6) : EX u e n0 g l (P + 1) fl a nc σ0 τ0 σ1 τ1 s w d 1 W cs (uI (uI σ 2 5 (nI w)) 6 4 (nI (P + 1))) (uI (uI (uI τ 0 37 (nI w)) 0 12 (nI d)) 0 11 (nI (P + 1))) := by
  have hbd := Wt_bd h.2.2.1
  have hB := h.1
  have b5 := h.2.1.2.2.2.2
  obtain ⟨w1, w2, w3, w4, w5, w6⟩ := h.2.2.1
  have hg := hB.2.1.2.2.2.2.2.1
  have hB2 : Bs u e n0 g l P fl 0 σ0 τ0 (uI σ 2 5 (nI w)) (uI (uI τ 0 37 (nI w)) 0 12 (nI d)) := Bs.wM (Bs.wM (Bs.wC hB (by omega) (fun z => ⟨by decide, by decide, by decide⟩) (fun z => by omega)) (by unfold okm; omega) (fun _ => ⟨by decide, by decide, by decide, by decide⟩)) (by unfold okm; omega) (fun _ => ⟨by decide, by decide, by decide, by decide⟩)
  have hpn : pnN W w = d := by rw [pnN_s, if_pos h6] at w4; omega
  refine h.wait (hB2.adv (by rw [hK0]; decide) hP) (by omega) (by omega) (fun c j x1 x2 x3 => ?_) rfl (fun c j x1 x2 => ?_) rfl ?_ ⟨?_, ?_, by omega, hpn, fun i hi => ⟨(w5 i (by omega)).1, ?_, ?_⟩, fun k hk => w6 k (by omega)⟩
  · rw [gI_uI, if_neg x3, gI_uI, if_neg x1]
  · rw [gI_uI, if_neg (by omega), gI_uI, if_neg (by omega), gI_uI, if_neg (by omega)]
  · rw [gI_uI, if_neg (by omega), gI_s]
  · rw [gI_uI, if_neg (by omega), gI_s]
  · rw [gI_uI, if_neg (by omega), gI_uI, if_neg (by omega), gI_s]
  · rw [gI_uI, if_neg (by omega), gI_uI, if_neg (by omega)]; exact (w5 i (by omega)).2.1
  · rw [gI_uI, if_neg (by omega), gI_uI, if_neg (by omega), gI_uI, if_neg (by omega)]; exact (w5 i (by omega)).2.2
end EP
