/-! a change that is kept in the history -/
def RTape (tp : Nat) (σ τ : Wd) : Prop := tp ≤ 2000 ∧ gI σ 0 1 = nI tp ∧ gI τ 0 2 = nI tp ∧ (∀ i, i < tp → gI σ 1 i = gI τ 1 i ∧ (gI σ 1 i).toInt8.toInt32 = gI σ 1 i)
def RText (T : Td) (t l : Nat) (σ τ : Wd) : Prop := (t = 10 ∨ t = 19) ∧ gR σ 0 4 = t ∧ gR σ 0 5 = 29 - t ∧ l < 2 ∧ gI τ 0 18 = nI l ∧ TInv T ∧ TC T t σ ∧ TM T l τ
def RNow (T : Td) (g : Gs) (σ τ : Wd) : Prop := CR (tN T) g (σ.2.1 29) ∧ CA g 28 σ ∧ MR g (τ.1 25) ∧ Inv (tN T) (tF T) g
def RHist (T : Td) (g : Gs) (un nx : Nat) (hs : Nat → Gs) (σ τ : Wd) : Prop := un ≤ 40 ∧ nx < 40 ∧ gI σ 66 2 = nI un ∧ gI σ 66 1 = nI nx ∧ gI τ 0 51 = nI un ∧ ∀ u, u < un → CR (tN T) (hs u) (σ.2.1 (68 + (nx + 40 - un + u) % 40)) ∧ CA (hs u) 28 σ ∧ MR (hs u) (fun k => gI τ 32 (770 * u + k)) ∧ Inv (tN T) (tF T) (hs u) ∧ gW (hs u) ≤ gW g ∧ gO (hs u) ≤ gO g ∧ ∀ v, u ≤ v → v < un → gW (hs u) ≤ gW (hs v) ∧ gO (hs u) ≤ gO (hs v)
def RHeld (T : Td) (sl : Nat → Gs) (hl : Nat → Nat) (σ τ : Wd) : Prop := ∀ k, k < 3 → hl k ≤ 1 ∧ gI σ 65 k = nI (hl k) ∧ gI τ 35 k = nI (hl k) ∧ (hl k = 1 → CR (tN T) (sl k) (σ.2.1 (38 + 9 * k)) ∧ CA (sl k) (37 + 9 * k) σ ∧ MR (sl k) (fun j => gI τ 36 (770 * k + j)) ∧ Inv (tN T) (tF T) (sl k))
def RKeys (τ : Wd) : Prop := ∀ k, k < 11 → gL τ 7 k = keyv k
theorem Rel_iff {σ τ : Wd} : Rel σ τ ↔ ∃ (T : Td) (t l tp un nx : Nat) (g : Gs) (hs sl : Nat → Gs) (hl : Nat → Nat), RTape tp σ τ ∧ gI σ 0 2 = gI τ 0 17 ∧ RText T t l σ τ ∧ RNow T g σ τ ∧ RHist T g un nx hs σ τ ∧ RHeld T sl hl σ τ ∧ RKeys τ := Iff.rfl
theorem TM_eq {T : Td} {l : Nat} {τ τ' : Wd} (h : ∀ c, 10 ≤ c → c ≤ 21 → τ'.1 c = τ.1 c) (hT : TM T l τ) : TM T l τ' := by
  have e : ∀ c k, 10 ≤ c → c ≤ 21 → gI τ' c k = gI τ c k := fun c k h1 h2 => congrFun (h c h1 h2) k
  obtain ⟨⟨a1, a2, a3, a4, a5⟩, b, c⟩ := hT
  refine ⟨⟨by rw [e _ _ (by decide) (by decide)]; exact a1, by rw [e _ _ (by decide) (by decide)]; exact a2, by rw [e _ _ (by decide) (by decide)]; exact a3, by rw [e _ _ (by decide) (by decide)]; exact a4, by rw [e _ _ (by decide) (by decide)]; exact a5⟩, fun i hi => by rw [e _ _ (by decide) (by decide)]; exact b i hi, fun f hf => ?_⟩
  obtain ⟨c1, c2, c3, c4⟩ := c f hf
  refine ⟨by rw [e _ _ (by decide) (by decide)]; exact c1, by rw [e _ _ (by decide) (by decide)]; exact c2, by rw [e _ _ (by decide) (by decide)]; exact c3, fun p hp hq => ?_⟩
  obtain ⟨a, d1, d2, d3, d4⟩ := c4 p hp hq
  refine ⟨a, by rw [e _ _ (by decide) (by decide)]; exact d1, by rw [e _ _ (by decide) (by decide)]; exact d2, d3, ?_⟩
  rw [show gI τ' 20 = gI τ 20 from h 20 (by decide) (by decide), show gI τ' 21 = gI τ 21 from h 21 (by decide) (by decide)]
  exact d4
theorem CA_pre {g : Gs} {b : Nat} {σ σ' : Wd} (h : ∀ w, w < gW g → gI σ' (b + 2) w = gI σ (b + 2) w ∧ gI σ' (b + 3) w = gI σ (b + 3) w ∧ gI σ' (b + 4) w = gI σ (b + 4) w ∧ gI σ' (b + 5) w = gI σ (b + 5) w) (ho : ∀ i, i < gO g → gI σ' (b + 6) i = gI σ (b + 6) i) (hA : CA g b σ) : CA g b σ' := by
  refine ⟨fun w hw => ?_, fun i hi => by rw [ho i hi]; exact hA.2 i hi⟩
  obtain ⟨h1, h2, h3, h4⟩ := h w hw
  rw [h1, h2, h3, h4]
  exact hA.1 w hw
theorem Rel_lay {σ τ σ2 τ2 : Wd} {T : Td} {t l tp un nx : Nat} {g g' : Gs} {hs sl : Nat → Gs} {hl : Nat → Nat} (hTape : RTape tp σ τ) (h17 : gI σ 0 2 = gI τ 0 17) (hText : RText T t l σ τ) (hNow : RNow T g σ τ) (hHist : RHist T g un nx hs σ τ) (hHeld : RHeld T sl hl σ τ) (hKeys : RKeys τ) {σ1 : Wd} (hk : M_X2_keep σ = some σ1)
    (hσ : ∀ c, c < 108 → (c < 29 ∨ 36 < c) → σ2.1 c = σ1.1 c ∧ σ2.2.1 c = σ1.2.1 c ∧ σ2.2.2 c = σ1.2.2 c)
    (hpre : ∀ w, w < gW g → gI σ2 30 w = gI σ1 30 w ∧ gI σ2 31 w = gI σ1 31 w ∧ gI σ2 32 w = gI σ1 32 w ∧ gI σ2 33 w = gI σ1 33 w) (hord : ∀ i, i < gO g → gI σ2 34 i = gI σ1 34 i)
    (hτ : KM τ τ2) (hC : CR (tN T) g' (σ2.2.1 29)) (hA : CA g' 28 σ2) (hM : MR g' (τ2.1 26)) (hI : Inv (tN T) (tF T) g') (hW : gW g ≤ gW g') (hO : gO g ≤ gO g') : ∃ τ3, M_X9_records τ2 = some τ3 ∧ Rel σ2 τ3 := by
  obtain ⟨u1, u2, u3, u4, u5, u6⟩ := hHist
  obtain ⟨n1, n2, n3, n4⟩ := hNow
  rw [c_keep u1 u2 u3 u4] at hk
  have hk : uI (uI (rL σ (68 + nx) (va_cpy (σ.2.1 29) (σ.2.1 (68 + nx)) 0 0 96)) 66 1 (nI ((nx + 1) % 40))) 66 2 (nI (min 40 (un + 1))) = σ1 := Option.some.inj hk
  have k1 : ∀ c, c ≠ 66 → σ1.1 c = σ.1 c := fun c hc => by rw [← hk]; unfold uI rI rL; simp [hc]
  have k2 : ∀ c, c ≠ 68 + nx → σ1.2.1 c = σ.2.1 c := fun c hc => by rw [← hk]; unfold uI rI rL; simp [hc]
  have k3 : σ1.2.1 (68 + nx) = va_cpy (σ.2.1 29) (σ.2.1 (68 + nx)) 0 0 96 := by rw [← hk]; unfold uI rI rL; simp
  have k4 : gI σ1 66 1 = nI ((nx + 1) % 40) := by rw [← hk]; simp only [gI_uI, gI_rI, gI_uL, gI_rL, gI_uR, gL_uL, gL_rL, gL_uI, gL_rI, gL_uR, gR_uI, gR_rI, gR_uL, gR_rL, gR_uR]; simp
  have k5 : gI σ1 66 2 = nI (min 40 (un + 1)) := by rw [← hk]; simp only [gI_uI, gI_rI, gI_uL, gI_rL, gI_uR, gL_uL, gL_rL, gL_uI, gL_rI, gL_uR, gR_uI, gR_rI, gR_uL, gR_rL, gR_uR]; simp
  have k6 : σ1.2.2 = σ.2.2 := by rw [← hk]; rfl
  obtain ⟨τ3, r1, r2, r3, r4, r5, r6, r7⟩ := m_records (τ := τ2) u1 ((hτ.2.2 51 (by decide)).trans u5)
  have e0 : ∀ c k, c < 29 → gI σ2 c k = gI σ c k := fun c k hc => congrFun ((hσ c (by omega) (Or.inl hc)).1.trans (k1 c (by omega))) k
  have e1 : ∀ c k, 36 < c → c < 66 → gI σ2 c k = gI σ c k := fun c k hc hd => congrFun ((hσ c (by omega) (Or.inr hc)).1.trans (k1 c (by omega))) k
  have eτ : ∀ c, pM c = true → c ≠ 25 → c ≠ 32 → c ≠ 0 → τ3.1 c = τ.1 c := fun c hc h1 h2 h0 => (r2 c h0 h1 h2).trans (hτ.1 c hc)
  have eg : ∀ c k, pM c = true → c ≠ 25 → c ≠ 32 → c ≠ 0 → gI τ3 c k = gI τ c k := fun c k hc h1 h2 h0 => congrFun (eτ c hc h1 h2 h0) k
  have aPre : ∀ g0 : Gs, gW g0 ≤ gW g → gO g0 ≤ gO g → CA g0 28 σ → CA g0 28 σ2 := fun g0 hw ho h => by
    refine CA_pre (fun w hw' => ?_) (fun i hi => ?_) h
    · obtain ⟨q1, q2, q3, q4⟩ := hpre w (by omega)
      exact ⟨q1.trans (congrFun (k1 30 (by decide)) w), q2.trans (congrFun (k1 31 (by decide)) w), q3.trans (congrFun (k1 32 (by decide)) w), q4.trans (congrFun (k1 33 (by decide)) w)⟩
    · exact (hord i (by omega)).trans (congrFun (k1 34 (by decide)) i)
  refine ⟨τ3, r1, Rel_iff.mpr ⟨T, t, l, tp, min 40 (un + 1), (nx + 1) % 40, g', fun u => if u + (if un = 40 then 1 else 0) < un then hs (u + (if un = 40 then 1 else 0)) else g, sl, hl, ?_, ?_, ?_, ⟨hC, hA, ?_, hI⟩, ⟨Nat.min_le_left _ _, Nat.mod_lt _ (by decide), ?_, ?_, r5, fun u hu => ?_⟩, fun k hk => ?_, fun k hk => ?_⟩⟩
  · obtain ⟨a, b, c, d⟩ := hTape
    refine ⟨a, by rw [e0 _ _ (by decide)]; exact b, by rw [r4 2 (by decide), hτ.2.2 2 (by decide)]; exact c, fun i hi => ?_⟩
    rw [e0 _ _ (by decide), eg 1 i rfl (by decide) (by decide) (by decide)]
    exact d i hi
  · rw [e0 _ _ (by decide), r4 17 (by decide), hτ.2.2 17 (by decide)]
    exact h17
  · obtain ⟨a, b, c, d, e, f, j, k⟩ := hText
    refine ⟨a, ?_, ?_, d, by rw [r4 18 (by decide), hτ.2.2 18 (by decide)]; exact e, f, TC_eq (fun j hj => ?_) j, TM_eq (fun c h1 h2 => ?_) k⟩
    · exact (congrFun ((hσ 0 (by decide) (Or.inl (by decide))).2.2.trans (congrFun k6 0)) 4).trans b
    · exact (congrFun ((hσ 0 (by decide) (Or.inl (by decide))).2.2.trans (congrFun k6 0)) 5).trans c
    · exact (hσ _ (by omega) (Or.inl (by omega))).1.trans (k1 _ (by omega))
    · exact eτ c (by unfold pM; simp; omega) (by omega) (by omega) (by omega)
  · exact MR_cong hI r6 hM
  · exact (congrFun (hσ 66 (by decide) (Or.inr (by decide))).1 2).trans k5
  · exact (congrFun (hσ 66 (by decide) (Or.inr (by decide))).1 1).trans k4
  · have hm : ∀ a, 68 + a % 40 < 108 := fun a => by have := Nat.mod_lt a (show 40 > 0 by decide); omega
    have hin : ∀ u, u < min 40 (un + 1) → u + (if un = 40 then 1 else 0) ≤ un ∧ ((nx + 1) % 40 + 40 - min 40 (un + 1) + u) % 40 = (nx + 40 - un + (u + (if un = 40 then 1 else 0))) % 40 := fun u hu => by
      by_cases h4 : un = 40
      · subst h4; simp only [if_true]; omega
      · simp only [h4, if_false]; omega
    have hmono : ∀ u v, u ≤ v → v < min 40 (un + 1) → ∀ G : Nat → Gs, G = (fun u => if u + (if un = 40 then 1 else 0) < un then hs (u + (if un = 40 then 1 else 0)) else g) → gW (G u) ≤ gW (G v) ∧ gO (G u) ≤ gO (G v) := fun u v huv hv G hG => by
      subst hG
      by_cases hb : v + (if un = 40 then 1 else 0) < un
      · simp only [if_pos hb, if_pos (show u + (if un = 40 then 1 else 0) < un by omega)]
        exact (u6 _ (by omega)).2.2.2.2.2.2 _ (by omega) hb
      · simp only [if_neg hb]
        by_cases ha : u + (if un = 40 then 1 else 0) < un
        · simp only [if_pos ha]
          exact ⟨(u6 _ ha).2.2.2.2.1, (u6 _ ha).2.2.2.2.2.1⟩
        · simp only [if_neg ha]
          exact ⟨Nat.le_refl _, Nat.le_refl _⟩
    obtain ⟨i1, i2⟩ := hin u hu
    refine ⟨?_, ?_, ?_, ?_, ?_, ?_, fun v h1 h2 => hmono u v h1 h2 _ rfl⟩
    · rw [i2, (hσ _ (hm _) (Or.inr (by omega))).2.1]
      by_cases ha : u + (if un = 40 then 1 else 0) < un
      · simp only [if_pos ha]
        rw [k2 _ (by omega)]
        exact (u6 _ ha).1
      · simp only [if_neg ha]
        rw [show (nx + 40 - un + (u + if un = 40 then 1 else 0)) % 40 = nx by omega, k3]
        exact CR_cong n4 (fun k hk => cpyL_at hk) n1
    · by_cases ha : u + (if un = 40 then 1 else 0) < un
      · simp only [if_pos ha]
        exact aPre _ (u6 _ ha).2.2.2.2.1 (u6 _ ha).2.2.2.2.2.1 (u6 _ ha).2.1
      · simp only [if_neg ha]
        exact aPre _ (Nat.le_refl _) (Nat.le_refl _) n2
    · by_cases ha : u + (if un = 40 then 1 else 0) < un
      · simp only [if_pos ha]
        refine MR_cong (u6 _ ha).2.2.2.1 (fun k hk => ?_) (u6 _ ha).2.2.1
        obtain ⟨s1, s2, s3⟩ := r7 u k hk
        by_cases h4 : un = 40
        · rw [s2 h4 (by simp only [h4, if_true] at ha; omega)]
          simp only [h4, if_true]
          exact congrFun (hτ.1 32 rfl) _
        · rw [s1 (by omega) (by simp only [h4, if_false] at ha; omega)]
          simp only [h4, if_false]
          exact congrFun (hτ.1 32 rfl) _
      · simp only [if_neg ha]
        refine MR_cong n4 (fun k hk => ?_) n3
        obtain ⟨s1, s2, s3⟩ := r7 u k hk
        rw [s3 (by by_cases h4 : un = 40 <;> simp only [h4, if_true, if_false] at ha hu ⊢ <;> omega)]
        exact congrFun (hτ.1 25 rfl) k
    · by_cases ha : u + (if un = 40 then 1 else 0) < un
      · simp only [if_pos ha]
        exact (u6 _ ha).2.2.2.1
      · simp only [if_neg ha]
        exact n4
    · by_cases ha : u + (if un = 40 then 1 else 0) < un
      · simp only [if_pos ha]
        exact Nat.le_trans (u6 _ ha).2.2.2.2.1 hW
      · simp only [if_neg ha]
        exact hW
    · by_cases ha : u + (if un = 40 then 1 else 0) < un
      · simp only [if_pos ha]
        exact Nat.le_trans (u6 _ ha).2.2.2.2.2.1 hO
      · simp only [if_neg ha]
        exact hO
  · obtain ⟨q1, q2, q3, q4⟩ := hHeld k hk
    refine ⟨q1, by rw [e1 _ _ (by decide) (by decide)]; exact q2, by rw [eg 35 k rfl (by decide) (by decide) (by decide)]; exact q3, fun hq => ?_⟩
    obtain ⟨z1, z2, z3, z4⟩ := q4 hq
    refine ⟨?_, CA_eq (fun j h1 h2 => (hσ _ (by omega) (Or.inr (by omega))).1.trans (k1 _ (by omega))) z2, ?_, z4⟩
    · rw [(hσ _ (by omega) (Or.inr (by omega))).2.1, k2 _ (by omega)]
      exact z1
    · rw [show gI τ3 36 = gI τ 36 from eτ 36 rfl (by decide) (by decide) (by decide)]
      exact z3
  · rw [show gL τ3 7 k = gL τ2 7 k from congrFun (congrFun (congrArg Prod.fst r3) 7) k, show gL τ2 7 k = gL τ 7 k from congrFun hτ.2.1 k]
    exact hKeys k hk
