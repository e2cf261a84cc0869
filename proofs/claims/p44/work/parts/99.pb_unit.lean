/-! expressions: a unit -/
theorem Nm_SE {m mc nc fl fl1 g l a : Nat} {NV NA : Nat → Nat} {σ1 τ1 σ τ : Wd} (h : Nm m mc nc fl1 NV NA σ1 τ1) (hS : SEc g a σ1 σ) (hM : SEm l a τ1 τ) (hg : g = 10 ∨ g = 19) (hf : fl = 0 → fl1 = 0) : Nm m mc nc fl NV NA σ τ := by
  refine Nm_eq h (hS.1 2 3 (by omega) (by omega) (by omega) (by omega) (by omega)) (hM.1 0 20 (by unfold okE; omega)) (by rw [hS.2]) ?_ (by rw [hM.2]) ?_ hf
  · funext j
    exact hS.1 4 j (by omega) (by omega) (by omega) (by omega) (by omega)
  · funext j
    exact hM.1 9 j (by unfold okE; omega)
theorem isv_t : ∀ K : Fin 31, VK K.val → M_X3_isValue (nI (ck K.val)) = some (boI (decide (K.val = 2 ∨ K.val = 28 ∨ K.val = 29 ∨ K.val = 30))) := by decide +kernel
section EU
variable {u : Nat → Nat} {e n0 g l P fl a nc : Nat} {σ0 τ0 σ1 τ1 : Wd}
/-- what an emission keeps of the base -/
theorem Bs.emit {pd s i : Nat} {σ τ : Wd} {x y x' y' : Int32} (h : Bs u e n0 g l P fl pd σ0 τ0 σ τ) (hs : s < 400) (hi : 420 * l ≤ i) (hi2 : i < 420 * l + 420) : Bs u e n0 g l P fl pd σ0 τ0 (adC σ g s x y) (emM τ i x' y') := by
  have hg := h.2.1.2.2.2.2.2.1
  have hl := h.2.2.1.2.2.2.2.1
  unfold adC emM
  exact Bs.wM (Bs.wM (Bs.wM (Bs.wS (Bs.wC (Bs.wC h (by omega) (fun z => by omega) (fun z => by omega)) (by omega) (fun z => by omega) (fun z => by omega)) (by omega)) (by unfold okm; omega) (fun z => absurd z (by decide))) (by unfold okm; omega) (fun z => absurd z (by decide))) (by unfold okm; omega) (fun _ => ⟨by decide, by decide, by decide, by decide⟩)
theorem adC_o {σ : Wd} {g s c j : Nat} {x y : Int32} (h : c ≠ g + 7) (h2 : c ≠ g + 8) (h3 : ¬ (c = g ∧ j = 13)) : gI (adC σ g s x y) c j = gI σ c j := by
  unfold adC
  rw [gI_uI, if_neg h3, gI_uI, if_neg (fun z => h2 z.1), gI_uI, if_neg (fun z => h z.1)]
theorem emM_o {τ : Wd} {i c j : Nat} {x y : Int32} (h : c ≠ 20) (h2 : c ≠ 21) (h3 : ¬ (c = 0 ∧ j = 33)) : gI (emM τ i x y) c j = gI τ c j := by
  unfold emM
  rw [gI_uI, if_neg h3, gI_uI, if_neg (fun z => h2 z.1), gI_uI, if_neg (fun z => h z.1)]
/-- a step emitted and the token passed -/
theorem EX.step {s w d un k pd fl' : Nat} {W : Nat → Nat} {cs : List (Nat × Int32)} {σ τ σa τa : Wd} {v x y x' y' : Int32} (h : EX u e n0 g l P fl a nc σ0 τ0 σ1 τ1 s w d un W cs σ τ) (hP : P < 400) (hK : kTk u e P ≠ 0) (hB : Bs u e n0 g l P fl' pd σ0 τ0 σa τa) (hC : LtC σ σa) (hM : LtM τ τa) (hf : fl' = 0 → fl = 0) (hx : fl' = 0 → x = (ckd k v).1 ∧ ((k ≠ 1 ∨ v < 6) → y = (ckd k v).2) ∧ x' = nI k ∧ (k < 2 → y' = v) ∧ wfR nc [(k, v)] (w - d + un) (w - d + un + 1)) : EX u e n0 g l (P + 1) fl' a nc σ0 τ0 σ1 τ1 (s + 1) w d (un + 1) W (cs ++ [(k, v)]) (uI (adC σa g s x y) 6 4 (nI (P + 1))) (uI (emM τa (420 * l + s) x' y') 0 11 (nI (P + 1))) := by
  obtain ⟨hB0, ⟨b1, b2, b3, b4, b5⟩, ⟨w1, w2, w3, w4, w5, w6⟩, hCP, hS, hSM⟩ := h
  have hg := hB.2.1.2.2.2.2.2.1
  have hl := hB.2.2.1.2.2.2.2.1
  have oC : ∀ c j, c ≠ g + 7 → c ≠ g + 8 → ¬ (c = g ∧ j = 13) → ¬ (c = 6 ∧ j = 4) → ¬ (c = 2 ∧ (j = 9 ∨ j = 10)) → gI (uI (adC σa g s x y) 6 4 (nI (P + 1))) c j = gI σ c j := fun c j h1 h2 h3 h4 h5 => by rw [gI_uI, if_neg h4, adC_o h1 h2 h3]; exact hC.1 c j h5
  have oM : ∀ c j, c ≠ 20 → c ≠ 21 → ¬ (c = 0 ∧ j = 33) → ¬ (c = 0 ∧ j = 11) → ¬ (c = 0 ∧ (j = 15 ∨ j = 16)) → gI (uI (emM τa (420 * l + s) x' y') 0 11 (nI (P + 1))) c j = gI τ c j := fun c j h1 h2 h3 h4 h5 => by rw [gI_uI, if_neg h4, emM_o h1 h2 h3]; exact hM.1 c j h5
  refine ⟨(hB.emit (by omega) (by omega) (by omega)).adv hK hP, ⟨?_, ?_, (oM _ _ (by omega) (by omega) (by omega) (by omega) (by omega)).trans b3, by omega, by omega⟩, ⟨(oC _ _ (by omega) (by omega) (by omega) (by omega) (by omega)).trans w1, (oM _ _ (by omega) (by omega) (by omega) (by omega) (by omega)).trans w2, w3, w4, fun i hi => ⟨(w5 i hi).1, (oC _ _ (by omega) (by omega) (by omega) (by omega) (by omega)).trans (w5 i hi).2.1, (oM _ _ (by omega) (by omega) (by omega) (by omega) (by omega)).trans (w5 i hi).2.2⟩, w6⟩, ?_, ?_, ?_⟩
  · rw [gI_uI, if_neg (by omega)]; unfold adC; exact gI_s
  · rw [gI_uI, if_neg (by omega)]; unfold emM; exact gI_s
  · have c1 : CP g l a nc fl' s cs (w - d + un) σa τa := fun z => CP_eq hCP (funext fun j => hC.1 _ _ (by omega)) (funext fun j => hC.1 _ _ (by omega)) (funext fun j => hM.1 _ _ (by omega)) (funext fun j => hM.1 _ _ (by omega)) (hf z)
    have c2 := CP_emit (k := k) (v := v) (x := x) (y := y) (x' := x') (y' := y') (D' := w - d + un + 1) c1 hx
    exact CP_eq c2 (funext fun j => by show gI (uI _ 6 4 _) (g + 7) j = _; rw [gI_uI, if_neg (by omega)]; rfl) (funext fun j => by show gI (uI _ 6 4 _) (g + 8) j = _; rw [gI_uI, if_neg (by omega)]; rfl) (funext fun j => by show gI (uI _ 0 11 _) 20 j = _; rw [gI_uI, if_neg (by omega)]; rfl) (funext fun j => by show gI (uI _ 0 11 _) 21 j = _; rw [gI_uI, if_neg (by omega)]; rfl)
  · have q : SEc g a σ1 σa := ⟨fun c j x1 x2 x3 x4 x5 => (hC.1 c j (by omega)).trans (hS.1 c j x1 x2 x3 x4 x5), hC.2.trans hS.2⟩
    unfold adC
    exact SEc.wI (by omega) (SEc.wI (by omega) (SEc.wI (by omega) (SEc.wI (by omega) q)))
  · have q : SEm l a τ1 τa := ⟨fun c j x1 => (hM.1 c j (by unfold okE at x1; omega)).trans (hSM.1 c j x1), hM.2.trans hSM.2⟩
    unfold emM
    exact SEm.wI (by unfold okE; omega) (SEm.wI (by unfold okE; omega) (SEm.wI (by unfold okE; omega) (SEm.wI (by unfold okE; omega) q)))
end EU
