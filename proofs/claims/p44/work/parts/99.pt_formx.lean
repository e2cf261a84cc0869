/-! a form half told -/
/-- the parts told so far; the last one's end is where the codes stand -/
def PP (g l s c f k : Nat) (σ τ : Wd) : Prop := ∀ p, p < k → ∃ cs a, a + cs.length ≤ s ∧ s ≤ 400 ∧ gI σ (g + 5) (4 * f + p) = nI a ∧ gI σ (g + 6) (4 * f + p) = nI (a + cs.length) ∧ CC cs a (gI σ (g + 7)) (gI σ (g + 8)) ∧ gI τ 18 (5 * (6 * l + f) + p) = nI (420 * l + a) ∧ CM cs (420 * l + a) (gI τ 20) (gI τ 21) ∧ wfC c cs 0 ∧ (p + 1 < k → gI τ 18 (5 * (6 * l + f) + p + 1) = nI (420 * l + (a + cs.length))) ∧ (p + 1 = k → a + cs.length = s)
/-- what else is told of the form -/
def PQ (g l c f q : Nat) (σ τ : Wd) : Prop :=
  (1 ≤ q → ∃ L, L ≤ 1 ∧ gI σ (g + 2) f = nI L ∧ gI τ 15 (6 * l + f) = (if L = 1 then 13 else 5)) ∧
  (2 ≤ q → ∃ t, t < c ∧ gI σ (g + 3) f = nI t ∧ gI τ 16 (6 * l + f) = nI t) ∧
  (q = 3 → gI σ (g + 4) f = -1 ∧ gI τ 17 (6 * l + f) = -1) ∧
  (q = 4 → ∃ x, x < c ∧ gI σ (g + 4) f = nI x ∧ gI τ 17 (6 * l + f) = nI x)
def FS (u : Nat → Nat) (e n0 g l P fl s c f r k q : Nat) (NV NA : Nat → Nat) (σ0 τ0 σ τ : Wd) : Prop :=
  Bs u e n0 g l P fl 0 σ0 τ0 σ τ ∧ (gI σ g 13 = nI s ∧ gI τ 0 33 = nI (420 * l + s) ∧ gI τ 0 12 = 0 ∧ s < P) ∧
  (gI σ g 3 = nI c ∧ gI σ g 4 = nI f ∧ gI τ 12 l = nI c ∧ gI τ 14 l = nI f ∧ c ≤ 6 ∧ f < 6) ∧
  (Nm (c + f) (c + f + 1) c fl NV NA σ τ ∧ NA (c + f) = 10 + f ∧ r < 403 ∧ gL τ 6 r = lN (NV (c + f))) ∧
  (fl = 0 → Tw g l s c f σ τ ∧ PP g l s c f k σ τ ∧ PQ g l c f q σ τ)
/-- cells that may change while a form is told -/
def okC (g f c j : Nat) : Prop := (c = 2 ∧ (j = 5 ∨ j = 7 ∨ j = 8 ∨ j = 9 ∨ j = 10)) ∨ c = 5 ∨ (c = 6 ∧ j = 4)
def FSc (g s f : Nat) (σ σ' : Wd) : Prop := (∀ c j, ¬ okC g f c j → ¬ (c = g ∧ j = 13) → ¬ ((c = g + 7 ∨ c = g + 8) ∧ s ≤ j) → ¬ ((c = g + 5 ∨ c = g + 6) ∧ 4 * f ≤ j) → ¬ ((c = g + 2 ∨ c = g + 3 ∨ c = g + 4) ∧ f ≤ j) → gI σ' c j = gI σ c j) ∧ σ'.2 = σ.2
def FSm (l s f : Nat) (τ τ' : Wd) : Prop := (∀ c j, ¬ okE l s c j → ¬ ((c = 15 ∨ c = 16 ∨ c = 17) ∧ 6 * l + f ≤ j ∧ j < 6 * l + 6) → ¬ (c = 18 ∧ 5 * (6 * l + f) ≤ j) → gI τ' c j = gI τ c j) ∧ τ'.2 = τ.2
theorem Tw_fs {g l s s' c f : Nat} {σ τ σ' τ' : Wd} (h : Tw g l s c f σ τ) (hg : g = 10 ∨ g = 19) (hl : l < 2) (hc : c ≤ 6) (hf : f ≤ 6) (hs : s ≤ s') (hs4 : s ≤ 400) (h1 : FSc g s f σ σ') (h2 : FSm l s f τ τ') : Tw g l s' c f σ' τ' := by
  obtain ⟨T, t1, t2, t3, t4, t5⟩ := h
  have o1 : ∀ i j, g ≤ i → i ≤ g + 8 → ¬ (i = g ∧ j = 13) → ¬ ((i = g + 7 ∨ i = g + 8) ∧ s ≤ j) → ¬ ((i = g + 5 ∨ i = g + 6) ∧ 4 * f ≤ j) → ¬ ((i = g + 2 ∨ i = g + 3 ∨ i = g + 4) ∧ f ≤ j) → gI σ' i j = gI σ i j := fun i j a b => h1.1 i j (by unfold okC; omega)
  refine ⟨T, TCs_eq t1 hs hs4 (fun j hj => o1 g j (by omega) (by omega) (by omega) (by omega) (by omega) (by omega)) (fun j hj => o1 (g + 1) j (by omega) (by omega) (by omega) (by omega) (by omega) (by omega)) (fun j hj => ⟨o1 (g + 2) j (by omega) (by omega) (by omega) (by omega) (by omega) (by omega), o1 (g + 3) j (by omega) (by omega) (by omega) (by omega) (by omega) (by omega), o1 (g + 4) j (by omega) (by omega) (by omega) (by omega) (by omega) (by omega)⟩) (fun j hj => ⟨o1 (g + 5) j (by omega) (by omega) (by omega) (by omega) (by omega) (by omega), o1 (g + 6) j (by omega) (by omega) (by omega) (by omega) (by omega) (by omega)⟩) (fun j hj => ⟨o1 (g + 7) j (by omega) (by omega) (by omega) (by omega) (by omega) (by omega), o1 (g + 8) j (by omega) (by omega) (by omega) (by omega) (by omega) (by omega)⟩), TMs_eq t2 hs hs4 hl (fun i hi => h2.1 i l (by unfold okE; omega) (by omega) (by omega)) (fun j hj => h2.1 13 _ (by unfold okE; omega) (by omega) (by omega)) (fun j hj => ⟨h2.1 15 _ (by unfold okE; omega) (by omega) (by omega), h2.1 16 _ (by unfold okE; omega) (by omega) (by omega), h2.1 17 _ (by unfold okE; omega) (by omega) (by omega)⟩) (fun j hj => h2.1 18 _ (by unfold okE; omega) (by omega) (by omega)) (fun j hj => ⟨h2.1 20 _ (by unfold okE; omega) (by omega) (by omega), h2.1 21 _ (by unfold okE; omega) (by omega) (by omega)⟩), t3, t4, t5⟩
section FX
variable {u : Nat → Nat} {e n0 g l P fl s c f r k q : Nat} {NV NA : Nat → Nat} {σ0 τ0 σ τ : Wd}
theorem fs_expr (he : e ≤ 2000) (h : FS u e n0 g l P fl s c f r k q NV NA σ0 τ0 σ τ) (hk : k < 4) : ∃ σ' τ', M_X3_takeExpression σ (nI (4 * f + k)) = some σ' ∧ M_X9_termTold τ (nI (5 * (6 * l + f) + k)) = some τ' ∧ (FLT g l σ0 τ0 σ' τ' ∨ ∃ P' fl' s', P ≤ P' ∧ FS u e n0 g l P' fl' s' c f r (k + 1) q NV NA σ0 τ0 σ' τ') := by
  obtain ⟨hB, ⟨s1, s2, s3, s4⟩, ⟨d1, d2, d3, d4, d5, d6⟩, ⟨hN, hNA, hr, hrr⟩, hT⟩ := h
  have hg := hB.2.1.2.2.2.2.2.1
  have hl := hB.2.2.1.2.2.2.2.1
  have h13 := hB.2.2.1.2.2.1
  have hP := hB.1.2.1
  generalize hw : 5 * (6 * l + f) + k = w
  have hw60 : w < 60 := by omega
  -- the model stores where the part begins
  have hBm := hB.wM (c := 18) (k := w) (v := nI (420 * l + s)) (by unfold okm; omega) (fun z => by omega)
  have mI : ∀ i j, ¬ (i = 18 ∧ j = w) → gI (uI τ 18 w (nI (420 * l + s))) i j = gI τ i j := fun i j z => by rw [gI_uI, if_neg z]
  have hNm : Nm (c + f) (c + f + 1) c fl NV NA σ (uI τ 18 w (nI (420 * l + s))) := Nm_eq (σ' := σ) (τ' := uI τ 18 w (nI (420 * l + s))) hN rfl (mI 0 20 (by omega)) rfl rfl rfl (funext fun j => mI 9 j (by omega)) (fun z => z)
  obtain ⟨σ', τ', x1, x2, x3⟩ := expr_all he (v := 4 * f + k) (by omega) hBm hNm s1 ((mI 0 33 (by omega)).trans s2) ((mI 0 12 (by omega)).trans s3) s4
  have eT : M_X9_termTold τ (nI w) = some τ' := by
    unfold M_X9_termTold
    simp only [lt_eq]
    rw [chk_pos ((ib_nI (by omega)).mpr hw60), ix_nI (by omega), s2, mI 0 13 (by omega), h13, if_neg z00, x2, bnd1_some]
  refine ⟨σ', τ', x1, eT, ?_⟩
  rcases x3 with q3 | ⟨P', fl', s', cs, y1, y2, y3, y4, y5, y6, y7, y8, y9, y10, ⟨σx, y11, y12⟩, y13⟩
  · exact Or.inl q3
  · refine Or.inr ⟨P', fl', s', y1, ?_⟩
    -- what has changed
    have oc : ∀ i j, ¬ (i = 2 ∧ (j = 5 ∨ j = 7 ∨ j = 8 ∨ j = 9 ∨ j = 10)) → i ≠ 5 → ¬ (i = 6 ∧ j = 4) → ¬ (i = g ∧ j = 13) → ¬ ((i = g + 7 ∨ i = g + 8) ∧ s ≤ j) → ¬ (i = g + 6 ∧ j = 4 * f + k) → gI σ' i j = gI (uI (uI σ (g + 5) (4 * f + k) (nI s)) 2 5 0) i j := fun i j a1 a2 a3 a4 a5 a6 => by
      rw [y12, gI_uI, if_neg a6, y11.1 i j a1 a2 a3 a4 a5]
    have oc2 : ∀ i j, ¬ (i = 2 ∧ (j = 5 ∨ j = 7 ∨ j = 8 ∨ j = 9 ∨ j = 10)) → i ≠ 5 → ¬ (i = 6 ∧ j = 4) → ¬ (i = g ∧ j = 13) → ¬ ((i = g + 7 ∨ i = g + 8) ∧ s ≤ j) → ¬ ((i = g + 5 ∨ i = g + 6) ∧ j = 4 * f + k) → gI σ' i j = gI σ i j := fun i j a1 a2 a3 a4 a5 a6 => by
      rw [oc i j a1 a2 a3 a4 a5 (by omega), gI_uI, if_neg (by omega), gI_uI, if_neg (by omega)]
    have om : ∀ i j, ¬ okE l s i j → ¬ (i = 18 ∧ j = w) → gI τ' i j = gI τ i j := fun i j a1 a2 => by
      rw [y13.1 i j a1, gI_uI, if_neg (fun z => a1 (by unfold okE; omega)), mI i j a2]
    have q2 : ∀ i j, (i = g + 2 ∨ i = g + 3 ∨ i = g + 4) → gI σ' i j = gI σ i j := fun i j hi => oc2 i j (by omega) (by omega) (by omega) (by omega) (by omega) (by omega)
    have r2 : ∀ i j, (i = 15 ∨ i = 16 ∨ i = 17) → gI τ' i j = gI τ i j := fun i j hi => om i j (by unfold okE; omega) (by omega)
    have o2 : σ'.2 = σ.2 := by
      rw [y12]; show σx.2 = _; rw [y11.2]; rfl
    have m2 : τ'.2 = τ.2 := by
      rw [y13.2]; rfl
    have e5 : gI σ' (g + 5) (4 * f + k) = nI s := by
      rw [oc (g + 5) (4 * f + k) (by omega) (by omega) (by omega) (by omega) (by omega) (by omega), gI_uI, if_neg (by omega), gI_s]
    have e18 : gI τ' 18 w = nI (420 * l + s) := by
      rw [y13.1 18 w (by unfold okE; omega), gI_uI, if_neg (by omega), gI_s]
    refine ⟨y2, ⟨y3, y4, y5, y7⟩, ⟨(oc2 g 3 (by omega) (by omega) (by omega) (by omega) (by omega) (by omega)).trans d1, (oc2 g 4 (by omega) (by omega) (by omega) (by omega) (by omega) (by omega)).trans d2, (om 12 l (by unfold okE; omega) (by omega)).trans d3, (om 14 l (by unfold okE; omega) (by omega)).trans d4, d5, d6⟩, ⟨?_, hNA, hr, ?_⟩, fun z => ?_⟩
    · exact Nm_eq (σ' := σ') (τ' := τ') hN (oc2 2 3 (by omega) (by omega) (by omega) (by omega) (by omega) (by omega)) (om 0 20 (by unfold okE; omega) (by omega)) (by rw [o2]) (funext fun j => oc2 4 j (by omega) (by omega) (by omega) (by omega) (by omega) (by omega)) (by rw [m2]) (funext fun j => om 9 j (by unfold okE; omega) (by omega)) y8
    · show τ'.2.1 6 r = _
      rw [m2]; exact hrr
    · have hfl := y8 z
      obtain ⟨v1, v2, v3, v4⟩ := y9 z
      obtain ⟨g1, g2, g3⟩ := hT hfl
      have hs4 : s' ≤ 400 := by have := y2.1.2.1; omega
      refine ⟨Tw_fs g1 hg hl d5 (by omega) y6 (by omega) ⟨fun i j a1 a2 a3 a4 a5 => oc2 i j (fun z => a1 (Or.inl z)) (fun z => a1 (Or.inr (Or.inl z))) (fun z => a1 (Or.inr (Or.inr z))) a2 a3 (by omega), o2⟩ ⟨fun i j a1 a2 a3 => om i j a1 (by omega), m2⟩, fun p hp => ?_, ?_⟩
      · by_cases hpk : p = k
        · subst hpk
          refine ⟨cs, s, by omega, hs4, e5, by rw [y10, v1], v2, by rw [hw]; exact e18, v3, v4, fun y => by omega, fun _ => v1.symm⟩
        · obtain ⟨cs', a, a1, a2, a3, a4, a5, a6, a7, a8, a9, a10⟩ := g2 p (by omega)
          refine ⟨cs', a, by omega, hs4, (oc2 (g + 5) _ (by omega) (by omega) (by omega) (by omega) (by omega) (by omega)).trans a3, (oc2 (g + 6) _ (by omega) (by omega) (by omega) (by omega) (by omega) (by omega)).trans a4, fun i hi => ?_, (om 18 _ (by unfold okE; omega) (by omega)).trans a6, fun i hi => ?_, a8, fun y => ?_, fun y => by omega⟩
          · rw [oc2 (g + 7) (a + i) (by omega) (by omega) (by omega) (by omega) (by omega) (by omega), oc2 (g + 8) (a + i) (by omega) (by omega) (by omega) (by omega) (by omega) (by omega)]
            exact a5 i hi
          · rw [om 20 _ (by unfold okE; omega) (by omega), om 21 _ (by unfold okE; omega) (by omega)]
            exact a7 i hi
          · by_cases hq : p + 1 = k
            · rw [a10 hq, show 5 * (6 * l + f) + p + 1 = w by omega]
              exact e18
            · exact (om 18 _ (by unfold okE; omega) (by omega)).trans (a9 (by omega))
      · obtain ⟨p1, p2, p3, p4⟩ := g3
        unfold PQ
        rw [q2 (g + 2) f (by omega), r2 15 _ (by omega), q2 (g + 3) f (by omega), r2 16 _ (by omega), q2 (g + 4) f (by omega), r2 17 _ (by omega)]
        exact ⟨p1, p2, p3, p4⟩
end FX
