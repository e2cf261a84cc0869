/-! what Rel hides, said out -/
def RX (T : Td) (t l tp un nx : Nat) (g : Gs) (hs sl : Nat → Gs) (hl : Nat → Nat) (σ τ : Wd) : Prop := RTape tp σ τ ∧ gI σ 0 2 = gI τ 0 17 ∧ RText T t l σ τ ∧ RNow T g σ τ ∧ RHist T g un nx hs σ τ ∧ RHeld T sl hl σ τ ∧ RKeys τ
/-- the class's world stands for: a text, what is now, how many changes can be undone, what was before each, what is held -/
def At (T : Td) (g : Gs) (un : Nat) (hs sl : Nat → Gs) (hl : Nat → Nat) (σ : Wd) : Prop := ∃ τ t l tp nx, RX T t l tp un nx g hs sl hl σ τ
theorem RX_KM {T : Td} {t l tp un nx : Nat} {g : Gs} {hs sl : Nat → Gs} {hl : Nat → Nat} {σ τ τ' : Wd} (h : KM τ τ') (hR : RX T t l tp un nx g hs sl hl σ τ) : RX T t l tp un nx g hs sl hl σ τ' := by
  have e : ∀ c k, pM c = true → gI τ' c k = gI τ c k := fun c k hc => congrFun (h.1 c hc) k
  obtain ⟨⟨h1, h2, h3, h4⟩, h5, ⟨h6, h7, h8, h9, h10, h11, h12, h13⟩, ⟨h14, h15, h16, h17⟩, ⟨h18, h19, h20, h21, h22, h23⟩, h24, h25⟩ := hR
  refine ⟨⟨h1, h2, by rw [h.2.2 2 (Or.inl rfl)]; exact h3, fun i hi => by rw [e _ _ rfl]; exact h4 i hi⟩, by rw [h.2.2 17 (Or.inr (Or.inl rfl))]; exact h5, ⟨h6, h7, h8, h9, by rw [h.2.2 18 (by decide)]; exact h10, h11, h12, TM_KM h h13⟩, ⟨h14, h15, by rw [h.1 25 rfl]; exact h16, h17⟩, ⟨h18, h19, h20, h21, by rw [h.2.2 51 (by decide)]; exact h22, fun u hu => ?_⟩, fun k hk => ?_, fun k hk => ?_⟩
  · rw [show gI τ' 32 = gI τ 32 from h.1 32 rfl]
    exact h23 u hu
  · rw [show gI τ' 35 = gI τ 35 from h.1 35 rfl, show gI τ' 36 = gI τ 36 from h.1 36 rfl]
    exact h24 k hk
  · rw [show gL τ' 7 = gL τ 7 from h.2.1]
    exact h25 k hk
theorem RX_KC {T : Td} {t l tp un nx : Nat} {g : Gs} {hs sl : Nat → Gs} {hl : Nat → Nat} {σ σ' τ : Wd} (h : KC σ σ') (hR : RX T t l tp un nx g hs sl hl σ τ) : RX T t l tp un nx g hs sl hl σ' τ := by
  have e : ∀ c k, pC c → gI σ' c k = gI σ c k := fun c k hc => congrFun (h c hc).1 k
  obtain ⟨⟨h1, h2, h3, h4⟩, h5, ⟨h6, h7, h8, h9, h10, h11, h12, h13⟩, ⟨h14, h15, h16, h17⟩, ⟨h18, h19, h20, h21, h22, h23⟩, h24, h25⟩ := hR
  have d0 : ∀ c, c < 35 → pC c := fun c hc => ⟨by omega, by omega, by omega⟩
  have hA : ∀ g, CA g 28 σ → CA g 28 σ' := fun g q => CA_eq (fun j h1 h2 => (h (28 + j) (d0 _ (by omega))).1) q
  refine ⟨⟨h1, by rw [e _ _ (d0 _ (by decide))]; exact h2, h3, fun i hi => by rw [e _ _ (d0 _ (by decide))]; exact h4 i hi⟩, by rw [e _ _ (d0 _ (by decide))]; exact h5, ⟨h6, (congrFun (h 0 (d0 _ (by decide))).2.2 4).trans h7, (congrFun (h 0 (d0 _ (by decide))).2.2 5).trans h8, h9, h10, h11, TC_eq (fun j hj => (h (t + j) (d0 _ (by omega))).1) h12, h13⟩, ⟨by rw [(h 29 (d0 _ (by decide))).2.1]; exact h14, hA g h15, h16, h17⟩, ⟨h18, h19, by rw [e _ _ ⟨by decide, by decide, by decide⟩]; exact h20, by rw [e _ _ ⟨by decide, by decide, by decide⟩]; exact h21, h22, fun u hu => ?_⟩, fun k hk => ?_, h25⟩
  · obtain ⟨q1, q2, q3⟩ := h23 u hu
    refine ⟨?_, hA _ q2, q3⟩
    have hm := Nat.mod_lt (nx + 40 - un + u) (show 40 > 0 by decide)
    rw [(h _ ⟨by omega, by omega, by omega⟩).2.1]
    exact q1
  · obtain ⟨q1, q2, q3, q4⟩ := h24 k hk
    refine ⟨q1, by rw [e _ _ ⟨by decide, by decide, by decide⟩]; exact q2, q3, fun hq => ?_⟩
    obtain ⟨r1, r2, r3⟩ := q4 hq
    exact ⟨by rw [(h _ ⟨by omega, by omega, by omega⟩).2.1]; exact r1, CA_eq (fun j h1 h2 => (h _ ⟨by omega, by omega, by omega⟩).1) r2, r3⟩
theorem RX_lay {σ τ σ2 τ2 : Wd} {T : Td} {t l tp un nx : Nat} {g g' : Gs} {hs sl : Nat → Gs} {hl : Nat → Nat} (hTape : RTape tp σ τ) (h17 : gI σ 0 2 = gI τ 0 17) (hText : RText T t l σ τ) (hNow : RNow T g σ τ) (hHist : RHist T g un nx hs σ τ) (hHeld : RHeld T sl hl σ τ) (hKeys : RKeys τ) {σ1 : Wd} (hk : M_X2_keep σ = some σ1)
    (hσ : ∀ c, c < 108 → (c < 29 ∨ 36 < c) → σ2.1 c = σ1.1 c ∧ σ2.2.1 c = σ1.2.1 c ∧ σ2.2.2 c = σ1.2.2 c)
    (hpre : ∀ w, w < gW g → gI σ2 30 w = gI σ1 30 w ∧ gI σ2 31 w = gI σ1 31 w ∧ gI σ2 32 w = gI σ1 32 w ∧ gI σ2 33 w = gI σ1 33 w) (hord : ∀ i, i < gO g → gI σ2 34 i = gI σ1 34 i)
    (hτ : KM τ τ2) (hC : CR (tN T) g' (σ2.2.1 29)) (hA : CA g' 28 σ2) (hM : MR g' (τ2.1 26)) (hI : Inv (tN T) (tF T) g') (hW : gW g ≤ gW g') (hO : gO g ≤ gO g') : ∃ τ3, RX T t l tp (min 40 (un + 1)) ((nx + 1) % 40) g' (fun u => if u + (if un = 40 then 1 else 0) < un then hs (u + (if un = 40 then 1 else 0)) else g) sl hl σ2 τ3 := by
  obtain ⟨u1, u2, u3, u4, u5, u6⟩ := hHist
  obtain ⟨n1, n2, n3, n4⟩ := hNow
  rw [c_keep u1 u2 u3 u4] at hk
  have hk : uI (uI (rL σ (68 + nx) (va_cpy (σ.2.1 29) (σ.2.1 (68 + nx)) 0 0 96)) 66 1 (nI ((nx + 1) % 40))) 66 2 (nI (min 40 (un + 1))) = σ1 := Option.some.inj hk
  have k1 : ∀ c, c ≠ 66 → σ1.1 c = σ.1 c := fun c hc => by rw [← hk]; unfold uI rI rL; simp [hc]
  have k2 : ∀ c, c ≠ 68 + nx → σ1.2.1 c = σ.2.1 c := fun c hc => by rw [← hk]; unfold uI rI rL; simp [hc]
  have k3 : σ1.2.1 (68 + nx) = va_cpy (σ.2.1 29) (σ.2.1 (68 + nx)) 0 0 96 := by rw [← hk]; unfold uI rI rL; simp
  have k4 : gI σ1 66 1 = nI ((nx + 1) % 40) := by rw [← hk]; simp only [gI_uI, gI_rI, gI_uL, gI_rL, gI_uR, gL_uL, gL_rL, gL_uI, gL_rI, gL_uR, gR_uI, gR_rI, gR_uL, gR_rL, gR_uR]; simp
  have k5 : gI σ1 66 2 = nI (min 40 (un + 1)) := by rw [← hk]; simp only [gI_uI, gI_rI, gI_uL, gI_rL, gI_uR, gL_uL, gL_rL, gL_uI, gL_rI, gL_uR, gR_uI, gR_rI, gR_uL, gR_rL, gR_uR]; simp
  have k6 : σ1.2.2 = σ.2.2 := by rw [← hk]; rfl
  obtain ⟨τ3, r1, r2, r3, r4, r5, r6, r7⟩ := m_records (τ := τ2) u1 ((hτ.2.2 51 (by decide)).trans u5)
  have e0 : ∀ c k, c < 29 → gI σ2 c k = gI σ c k := fun c k hc => congrFun ((hσ c (by omega) (Or.inl hc)).1.trans (k1 c (by omega))) k
  have e1 : ∀ c k, 36 < c → c < 66 → gI σ2 c k = gI σ c k := fun c k hc hd => congrFun ((hσ c (by omega) (Or.inr hc)).1.trans (k1 c (by omega))) k
  have eτ : ∀ c, pM c = true → c ≠ 25 → c ≠ 32 → c ≠ 0 → τ3.1 c = τ.1 c := fun c hc h1 h2 h0 => (r2 c h0 h1 h2).trans (hτ.1 c hc)
  have eg : ∀ c k, pM c = true → c ≠ 25 → c ≠ 32 → c ≠ 0 → gI τ3 c k = gI τ c k := fun c k hc h1 h2 h0 => congrFun (eτ c hc h1 h2 h0) k
  have aPre : ∀ g0 : Gs, gW g0 ≤ gW g → gO g0 ≤ gO g → CA g0 28 σ → CA g0 28 σ2 := fun g0 hw ho h => by
    refine CA_pre (fun w hw' => ?_) (fun i hi => ?_) h
    · obtain ⟨q1, q2, q3, q4⟩ := hpre w (by omega)
      exact ⟨q1.trans (congrFun (k1 30 (by decide)) w), q2.trans (congrFun (k1 31 (by decide)) w), q3.trans (congrFun (k1 32 (by decide)) w), q4.trans (congrFun (k1 33 (by decide)) w)⟩
    · exact (hord i (by omega)).trans (congrFun (k1 34 (by decide)) i)
  refine ⟨τ3, ?_, ?_, ?_, ⟨hC, hA, ?_, hI⟩, ⟨Nat.min_le_left _ _, Nat.mod_lt _ (by decide), ?_, ?_, r5, fun u hu => ?_⟩, fun k hk => ?_, fun k hk => ?_⟩
  · obtain ⟨a, b, c, d⟩ := hTape
    refine ⟨a, by rw [e0 _ _ (by decide)]; exact b, by rw [r4 2 (by decide), hτ.2.2 2 (by decide)]; exact c, fun i hi => ?_⟩
    rw [e0 _ _ (by decide), eg 1 i rfl (by decide) (by decide) (by decide)]
    exact d i hi
  · rw [e0 _ _ (by decide), r4 17 (by decide), hτ.2.2 17 (by decide)]
    exact h17
  · obtain ⟨a, b, c, d, e, f, j, k⟩ := hText
    refine ⟨a, ?_, ?_, d, by rw [r4 18 (by decide), hτ.2.2 18 (by decide)]; exact e, f, TC_eq (fun j hj => ?_) j, TM_eq (fun c h1 h2 => ?_) k⟩
    · exact (congrFun ((hσ 0 (by decide) (Or.inl (by decide))).2.2.trans (congrFun k6 0)) 4).trans b
    · exact (congrFun ((hσ 0 (by decide) (Or.inl (by decide))).2.2.trans (congrFun k6 0)) 5).trans c
    · exact (hσ _ (by omega) (Or.inl (by omega))).1.trans (k1 _ (by omega))
    · exact eτ c (by unfold pM; simp; omega) (by omega) (by omega) (by omega)
  · exact MR_cong hI r6 hM
  · exact (congrFun (hσ 66 (by decide) (Or.inr (by decide))).1 2).trans k5
  · exact (congrFun (hσ 66 (by decide) (Or.inr (by decide))).1 1).trans k4
  · have hm : ∀ a, 68 + a % 40 < 108 := fun a => by have := Nat.mod_lt a (show 40 > 0 by decide); omega
    have hin : ∀ u, u < min 40 (un + 1) → u + (if un = 40 then 1 else 0) ≤ un ∧ ((nx + 1) % 40 + 40 - min 40 (un + 1) + u) % 40 = (nx + 40 - un + (u + (if un = 40 then 1 else 0))) % 40 := fun u hu => by
      by_cases h4 : un = 40
      · subst h4; simp only [if_true]; omega
      · simp only [h4, if_false]; omega
    have hmono : ∀ u v, u ≤ v → v < min 40 (un + 1) → ∀ G : Nat → Gs, G = (fun u => if u + (if un = 40 then 1 else 0) < un then hs (u + (if un = 40 then 1 else 0)) else g) → gW (G u) ≤ gW (G v) ∧ gO (G u) ≤ gO (G v) := fun u v huv hv G hG => by
      subst hG
      by_cases hb : v + (if un = 40 then 1 else 0) < un
      · simp only [if_pos hb, if_pos (show u + (if un = 40 then 1 else 0) < un by omega)]
        exact (u6 _ (by omega)).2.2.2.2.2.2 _ (by omega) hb
      · simp only [if_neg hb]
        by_cases ha : u + (if un = 40 then 1 else 0) < un
        · simp only [if_pos ha]
          exact ⟨(u6 _ ha).2.2.2.2.1, (u6 _ ha).2.2.2.2.2.1⟩
        · simp only [if_neg ha]
          exact ⟨Nat.le_refl _, Nat.le_refl _⟩
    obtain ⟨i1, i2⟩ := hin u hu
    refine ⟨?_, ?_, ?_, ?_, ?_, ?_, fun v h1 h2 => hmono u v h1 h2 _ rfl⟩
    · rw [i2, (hσ _ (hm _) (Or.inr (by omega))).2.1]
      by_cases ha : u + (if un = 40 then 1 else 0) < un
      · simp only [if_pos ha]
        rw [k2 _ (by omega)]
        exact (u6 _ ha).1
      · simp only [if_neg ha]
        rw [show (nx + 40 - un + (u + if un = 40 then 1 else 0)) % 40 = nx by omega, k3]
        exact CR_cong n4 (fun k hk => cpyL_at hk) n1
    · by_cases ha : u + (if un = 40 then 1 else 0) < un
      · simp only [if_pos ha]
        exact aPre _ (u6 _ ha).2.2.2.2.1 (u6 _ ha).2.2.2.2.2.1 (u6 _ ha).2.1
      · simp only [if_neg ha]
        exact aPre _ (Nat.le_refl _) (Nat.le_refl _) n2
    · by_cases ha : u + (if un = 40 then 1 else 0) < un
      · simp only [if_pos ha]
        refine MR_cong (u6 _ ha).2.2.2.1 (fun k hk => ?_) (u6 _ ha).2.2.1
        obtain ⟨s1, s2, s3⟩ := r7 u k hk
        by_cases h4 : un = 40
        · rw [s2 h4 (by simp only [h4, if_true] at ha; omega)]
          simp only [h4, if_true]
          exact congrFun (hτ.1 32 rfl) _
        · rw [s1 (by omega) (by simp only [h4, if_false] at ha; omega)]
          simp only [h4, if_false]
          exact congrFun (hτ.1 32 rfl) _
      · simp only [if_neg ha]
        refine MR_cong n4 (fun k hk => ?_) n3
        obtain ⟨s1, s2, s3⟩ := r7 u k hk
        rw [s3 (by by_cases h4 : un = 40 <;> simp only [h4, if_true, if_false] at ha hu ⊢ <;> omega)]
        exact congrFun (hτ.1 25 rfl) k
    · by_cases ha : u + (if un = 40 then 1 else 0) < un
      · simp only [if_pos ha]
        exact (u6 _ ha).2.2.2.1
      · simp only [if_neg ha]
        exact n4
    · by_cases ha : u + (if un = 40 then 1 else 0) < un
      · simp only [if_pos ha]
        exact Nat.le_trans (u6 _ ha).2.2.2.2.1 hW
      · simp only [if_neg ha]
        exact hW
    · by_cases ha : u + (if un = 40 then 1 else 0) < un
      · simp only [if_pos ha]
        exact Nat.le_trans (u6 _ ha).2.2.2.2.2.1 hO
      · simp only [if_neg ha]
        exact hO
  · obtain ⟨q1, q2, q3, q4⟩ := hHeld k hk
    refine ⟨q1, by rw [e1 _ _ (by decide) (by decide)]; exact q2, by rw [eg 35 k rfl (by decide) (by decide) (by decide)]; exact q3, fun hq => ?_⟩
    obtain ⟨z1, z2, z3, z4⟩ := q4 hq
    refine ⟨?_, CA_eq (fun j h1 h2 => (hσ _ (by omega) (Or.inr (by omega))).1.trans (k1 _ (by omega))) z2, ?_, z4⟩
    · rw [(hσ _ (by omega) (Or.inr (by omega))).2.1, k2 _ (by omega)]
      exact z1
    · rw [show gI τ3 36 = gI τ 36 from eτ 36 rfl (by decide) (by decide) (by decide)]
      exact z3
  · rw [show gL τ3 7 k = gL τ2 7 k from congrFun (congrFun (congrArg Prod.fst r3) 7) k, show gL τ2 7 k = gL τ 7 k from congrFun hτ.2.1 k]
    exact hKeys k hk
section AT
variable {T : Td} {g : Gs} {un : Nat} {hs sl : Nat → Gs} {hl : Nat → Nat} {σ σ' : Wd}
theorem At.kc (h : At T g un hs sl hl σ) (hk : KC σ σ') : At T g un hs sl hl σ' := by
  obtain ⟨τ, t, l, tp, nx, h⟩ := h
  exact ⟨τ, t, l, tp, nx, RX_KC hk h⟩
/-- both worlds, for a question -/
theorem At.qd (h : At T g un hs sl hl σ) : ∃ t l τ, Qd T t l g σ τ := by
  obtain ⟨τ, t, l, tp, nx, h1, h2, h3, h4, h5, h6, h7⟩ := h
  have c := m_copiesNow (τ := τ) (n := tS T) h3.2.2.2.1 h3.2.2.2.2.1 h3.2.2.2.2.2.2.2.1.2.2.1
  have k : KM τ (uI (rI τ 26 (va_cpy (τ.1 25) (τ.1 26) 0 0 770)) 0 43 (nI (tS T))) := KM.wO (by decide) (KM.wI rfl (by decide) KM.refl)
  refine ⟨t, l, _, RText_eq rfl (fun _ _ _ => rfl) (k.2.2 18 (by decide)) (fun c q1 q2 => k.1 c (by unfold pM; simp; omega)) h3, h4.1, h4.2.1, ?_, h4.2.2.2, trivial⟩
  refine MR_cong h4.2.2.2 (fun k hk => ?_) h4.2.2.1
  show (uI _ 0 43 _).1 26 k = _
  unfold uI rI
  simp only [Nat.reduceEqDiff, if_false, if_true]
  exact cpy_at hk
theorem At.inv (h : At T g un hs sl hl σ) : Inv (tN T) (tF T) g := by
  obtain ⟨τ, t, l, tp, nx, h1, h2, h3, h4, h5⟩ := h
  exact h4.2.2.2
theorem At.tI (h : At T g un hs sl hl σ) : TInv T := by
  obtain ⟨τ, t, l, tp, nx, h1, h2, h3, h4, h5⟩ := h
  exact h3.2.2.2.2.2.1
theorem At.hUn (h : At T g un hs sl hl σ) : un ≤ 40 ∧ gI σ 66 2 = nI un := by
  obtain ⟨τ, t, l, tp, nx, h1, h2, h3, h4, h5, h6⟩ := h
  exact ⟨h5.1, h5.2.2.1⟩
/-- what was before a change -/
def pushH (hs : Nat → Gs) (un : Nat) (g : Gs) : Nat → Gs := fun u => if u < un then hs u else g
/-- a change: what goes on in between is a matter of Mid -/
theorem At.layS (h : At T g un hs sl hl σ) (hun : un < 40) : ∃ t l τ0, Qd T t l g σ τ0 ∧ ∃ σ1 τ1, M_X2_keep σ = some σ1 ∧ RText T t l σ1 τ1 ∧ Mid T g σ1 τ1 g σ1 τ1 ∧ (∀ g' σ2 τ2, Mid T g σ1 τ1 g' σ2 τ2 → At T g' (un + 1) (pushH hs un g) sl hl σ2) ∧ gI τ1 0 43 = nI (tS T) := by
  obtain ⟨τ, t, l, tp, nx, h1, h2, h3, h4, h5, h6, h7⟩ := h
  have k := c_keep h5.1 h5.2.1 h5.2.2.1 h5.2.2.2.1
  have c := m_copiesNow (τ := τ) (n := tS T) h3.2.2.2.1 h3.2.2.2.2.1 h3.2.2.2.2.2.2.2.1.2.2.1
  have kk : KM τ (uI (rI τ 26 (va_cpy (τ.1 25) (τ.1 26) 0 0 770)) 0 43 (nI (tS T))) := KM.wO (by decide) (KM.wI rfl (by decide) KM.refl)
  have hM0 : MR g ((uI (rI τ 26 (va_cpy (τ.1 25) (τ.1 26) 0 0 770)) 0 43 (nI (tS T))).1 26) := by
    refine MR_cong h4.2.2.2 (fun k hk => ?_) h4.2.2.1
    show (uI _ 0 43 _).1 26 k = _
    unfold uI rI
    simp only [Nat.reduceEqDiff, if_false, if_true]
    exact cpy_at hk
  refine ⟨t, l, _, ⟨RText_eq rfl (fun _ _ _ => rfl) (kk.2.2 18 (by decide)) (fun c q1 q2 => kk.1 c (by unfold pM; simp; omega)) h3, h4.1, h4.2.1, hM0, h4.2.2.2, trivial⟩, _, _, k, ?_, ⟨FC.refl, KM.refl, rfl, ?_, ?_, hM0, h4.2.2.2, Nat.le_refl _, Nat.le_refl _⟩, fun g' σ2 τ2 hM => ?_, ?_⟩
  · refine RText_eq (σ := σ) (τ := τ) rfl (fun c a b => ?_) (kk.2.2 18 (by decide)) (fun c q1 q2 => kk.1 c (by unfold pM; simp; omega)) h3
    unfold uI rI rL
    have : c ≠ 66 := by omega
    simp [this]
  · have : (uI (uI (rL σ (68 + nx) (va_cpy (σ.2.1 29) (σ.2.1 (68 + nx)) 0 0 96)) 66 1 (nI ((nx + 1) % 40))) 66 2 (nI (min 40 (un + 1)))).2.1 29 = σ.2.1 29 := by
      unfold uI rI rL
      have : 29 ≠ 68 + nx := by omega
      simp [this]
    rw [this]
    exact h4.1
  · refine CA_eq (fun j a b => ?_) h4.2.1
    unfold uI rI rL
    have : 28 + j ≠ 66 := by omega
    simp [this]
  · obtain ⟨a, b, c, d, e, f, i, w, o⟩ := hM
    obtain ⟨τ3, r⟩ := RX_lay h1 h2 h3 h4 h5 h6 h7 k a.1 a.2.1 a.2.2 (kk.trans b) d e f i w o
    have e1 : min 40 (un + 1) = un + 1 := by omega
    have e2 : (fun u => if u + (if un = 40 then 1 else 0) < un then hs (u + (if un = 40 then 1 else 0)) else g) = pushH hs un g := by
      funext u
      have : ¬ un = 40 := by omega
      simp only [this, if_false, Nat.add_zero]
      rfl
    rw [e1, e2] at r
    exact ⟨τ3, t, l, tp, _, r⟩
  · simp only [gI_uI, gI_rI, gI_uL, gI_rL, gI_uR, gL_uL, gL_rL, gL_uI, gL_rI, gL_uR, gR_uI, gR_rI, gR_uL, gR_rL, gR_uR]; simp
theorem At.lay (h : At T g un hs sl hl σ) (hun : un < 40) : ∃ t l τ0, Qd T t l g σ τ0 ∧ ∃ σ1 τ1, M_X2_keep σ = some σ1 ∧ RText T t l σ1 τ1 ∧ Mid T g σ1 τ1 g σ1 τ1 ∧ (∀ g' σ2 τ2, Mid T g σ1 τ1 g' σ2 τ2 → At T g' (un + 1) (pushH hs un g) sl hl σ2) := by
  obtain ⟨t, l, τ0, a, σ1, τ1, b, c, d, e, f⟩ := h.layS hun
  exact ⟨t, l, τ0, a, σ1, τ1, b, c, d, e⟩
/-- undone -/
theorem x_undo (h : At T g (un + 1) hs sl hl σ) : ∃ σ', M_X8_undo σ = some (1, σ') ∧ At T (hs un) un hs sl hl σ' := by
  obtain ⟨τ, t, l, tp, nx, h1, h2, h3, h4, ⟨u1, u2, u3, u4, u5, u6⟩, h6, h7⟩ := h
  unfold M_X8_undo
  obtain ⟨σ', p1, p2, p3, p4, p5, p6, p7⟩ := c_bring (un := un + 1) (by omega) u1 u2 u3 u4
  refine ⟨σ', by rw [p1, bnd2_some, chk_pos (Or.inr rfl)], rI (uI τ 0 51 (nI (un + 1 - 1))) 25 (va_cpy (τ.1 32) (τ.1 25) (770 * (un + 1 - 1)) 0 770), t, l, tp, (nx + 39) % 40, ?_⟩
  rw [show un + 1 - 1 = un by omega] at p6 ⊢
  obtain ⟨v1, v2, v3, v4, v5, v6, v7⟩ := u6 un (by omega)
  have hm := Nat.mod_lt (nx + 39) (show 40 > 0 by decide)
  have c1 : ∀ c, c ≠ 0 → c ≠ 25 → (rI (uI τ 0 51 (nI un)) 25 (va_cpy (τ.1 32) (τ.1 25) (770 * un) 0 770)).1 c = τ.1 c := fun c a b => by unfold uI rI; simp [a, b]
  have c2 : ∀ k, k ≠ 51 → gI (rI (uI τ 0 51 (nI un)) 25 (va_cpy (τ.1 32) (τ.1 25) (770 * un) 0 770)) 0 k = gI τ 0 k := fun k hk => by simp only [gI_uI, gI_rI, gI_uL, gI_rL, gI_uR, gL_uL, gL_rL, gL_uI, gL_rI, gL_uR, gR_uI, gR_rI, gR_uL, gR_rL, gR_uR]; simp [hk]
  refine ⟨?_, ?_, RText_eq (by rw [p4]) (fun c a b => p3 c (by omega)) (c2 18 (by decide)) (fun c a b => c1 c (by omega) (by omega)) h3, ⟨?_, ?_, ?_, v4⟩, ⟨by omega, hm, p6, p5, ?_, fun u hu => ?_⟩, RHeld_eq (p3 65 (by decide)) (fun c a b => ⟨p3 c (by omega), p2 c (by omega)⟩) (c1 35 (by decide) (by decide)) (c1 36 (by decide) (by decide)) h6, RKeys_eq rfl h7⟩
  · obtain ⟨a, b, c, d⟩ := h1
    refine ⟨a, (congrFun (p3 0 (by decide)) 1).trans b, (c2 2 (by decide)).trans c, fun i hi => ?_⟩
    rw [show gI σ' 1 i = gI σ 1 i from congrFun (p3 1 (by decide)) i, show gI (rI (uI τ 0 51 (nI un)) 25 (va_cpy (τ.1 32) (τ.1 25) (770 * un) 0 770)) 1 i = gI τ 1 i from congrFun (c1 1 (by decide) (by decide)) i]
    exact d i hi
  · exact (congrFun (p3 0 (by decide)) 2).trans (h2.trans (c2 17 (by decide)).symm)
  · refine CR_cong v4 (fun k hk => p7 k hk) ?_
    rw [show (nx + 39) % 40 = (nx + 40 - (un + 1) + un) % 40 by congr 1; omega]
    exact v1
  · exact CA_eq (fun j a b => p3 _ (by omega)) v2
  · refine MR_cong v4 (fun k hk => ?_) v3
    rw [rI_at]
    have := cpyN_at (f := τ.1 32) (g := τ.1 25) (sp := 770 * un) (dp := 0) (n := 770) hk
    rwa [Nat.zero_add] at this
  · simp only [gI_uI, gI_rI, gI_uL, gI_rL, gI_uR, gL_uL, gL_rL, gL_uI, gL_rI, gL_uR, gR_uI, gR_rI, gR_uL, gR_rL, gR_uR]; simp
  · obtain ⟨w1, w2, w3, w4, w5, w6, w7⟩ := u6 u (by omega)
    have hm2 := Nat.mod_lt (nx + 40 - (un + 1) + u) (show 40 > 0 by decide)
    refine ⟨?_, CA_eq (fun j a b => p3 _ (by omega)) w2, ?_, w4, (w7 un (by omega) (by omega)).1, (w7 un (by omega) (by omega)).2, fun v a b => w7 v a (by omega)⟩
    · rw [show ((nx + 39) % 40 + 40 - un + u) % 40 = (nx + 40 - (un + 1) + u) % 40 by omega, p2 _ (by omega)]
      exact w1
    · rw [show gI (rI (uI τ 0 51 (nI un)) 25 (va_cpy (τ.1 32) (τ.1 25) (770 * un) 0 770)) 32 = gI τ 32 from c1 32 (by decide) (by decide)]
      exact w3
theorem x_hold (h : At T g un hs sl hl σ) {k : Nat} (hk : k < 3) : ∃ σ', M_X8_hold σ (nI k) = some (1, σ') ∧ At T g un hs (fun j => if j = k then g else sl j) (fun j => if j = k then 1 else hl j) σ' := by
  obtain ⟨τ, t, l, tp, nx, h1, h2, h3, ⟨n1, n2, n3, n4⟩, h5, h6, h7⟩ := h
  obtain ⟨σ1, p1, p2, p3, p4, p5, p6⟩ := c_take (σ := σ) (g0 := 37 + 9 * k) (g1 := 28) (by omega)
  have e8 : M_X8_hold σ (nI k) = some (1, uI σ1 65 k 1) := by
    unfold M_X8_hold
    rw [c_isSlot_t hk, bnd1_some, if_pos (by decide), chk_pos ((ib_nI (by omega)).mpr hk), ix_nI (by omega), p1, bnd1_some, chk_pos ((ib_nI (by omega)).mpr hk), show vp_nar .boolean (1 : Int32) = 1 from rfl]
    rfl
  refine ⟨_, e8, rI (uI τ 35 k 1) 36 (va_cpy (τ.1 25) (τ.1 36) 0 (770 * k) 770), t, l, tp, nx, ?_⟩
  have cI : ∀ c, c ≠ 65 → (c < 39 + 9 * k ∨ 43 + 9 * k < c) → (uI σ1 65 k 1).1 c = σ.1 c := fun c a b => by
    have : (uI σ1 65 k 1).1 c = σ1.1 c := by unfold uI rI; simp [a]
    exact this.trans (p3 c (by omega))
  have cL : ∀ c, c ≠ 38 + 9 * k → (uI σ1 65 k 1).2.1 c = σ.2.1 c := fun c a => p2 c (by omega)
  have cM : ∀ c, c ≠ 35 → c ≠ 36 → (rI (uI τ 35 k 1) 36 (va_cpy (τ.1 25) (τ.1 36) 0 (770 * k) 770)).1 c = τ.1 c := fun c a b => by unfold uI rI; simp [a, b]
  have cA : ∀ g', CA g' 28 σ → CA g' 28 (uI σ1 65 k 1) := fun g' q => CA_eq (fun j a b => cI _ (by omega) (by omega)) q
  refine ⟨?_, ?_, RText_eq (congrFun p4 0) (fun c a b => cI c (by omega) (by omega)) (congrFun (cM 0 (by decide) (by decide)) 18) (fun c a b => cM c (by omega) (by omega)) h3, ⟨by rw [cL 29 (by omega)]; exact n1, cA _ n2, by rw [cM 25 (by decide) (by decide)]; exact n3, n4⟩, RHist_eq (congrFun (cI 66 (by decide) (by omega)) 1) (congrFun (cI 66 (by decide) (by omega)) 2) (fun c a b => cL c (by omega)) (fun c a b => cI c (by omega) (by omega)) (congrFun (cM 0 (by decide) (by decide)) 51) (cM 32 (by decide) (by decide)) h5, fun j hj => ?_, RKeys_eq rfl h7⟩
  · obtain ⟨a, b, c, d⟩ := h1
    refine ⟨a, (congrFun (cI 0 (by decide) (by omega)) 1).trans b, (congrFun (cM 0 (by decide) (by decide)) 2).trans c, fun i hi => ?_⟩
    rw [show gI (uI σ1 65 k 1) 1 i = gI σ 1 i from congrFun (cI 1 (by decide) (by omega)) i, show gI (rI (uI τ 35 k 1) 36 (va_cpy (τ.1 25) (τ.1 36) 0 (770 * k) 770)) 1 i = gI τ 1 i from congrFun (cM 1 (by decide) (by decide)) i]
    exact d i hi
  · exact (congrFun (cI 0 (by decide) (by omega)) 2).trans (h2.trans (congrFun (cM 0 (by decide) (by decide)) 17).symm)
  · by_cases hj2 : j = k
    · subst hj2
      refine ⟨by simp, by simp only [gI_uI, gI_rI, gI_uL, gI_rL, gI_uR, gL_uL, gL_rL, gL_uI, gL_rI, gL_uR, gR_uI, gR_rI, gR_uL, gR_rL, gR_uR]; simp; rfl, by simp only [gI_uI, gI_rI, gI_uL, gI_rL, gI_uR, gL_uL, gL_rL, gL_uI, gL_rI, gL_uR, gR_uI, gR_rI, gR_uL, gR_rL, gR_uR]; simp; rfl, fun _ => ?_⟩
      simp only [if_true]
      refine ⟨?_, ?_, ?_, n4⟩
      · exact CR_cong n4 (fun i hi => by rw [show 38 + 9 * j = 37 + 9 * j + 1 by omega]; exact p5 i hi) n1
      · refine CA_take n4 (fun i w a b c => ?_) n2
        rw [gI_uI, if_neg (by omega)]
        exact p6 i w a b c
      · refine MR_cong n4 (fun i hi => ?_) n3
        rw [gI_rI, if_pos rfl, cpyN_at hi, Nat.zero_add]
    · obtain ⟨q1, q2, q3, q4⟩ := h6 j hj
      simp only [if_neg hj2]
      refine ⟨q1, ?_, ?_, fun hq => ?_⟩
      · rw [gI_uI, if_neg (by omega)]
        exact (congrFun (p3 65 (by omega)) j).trans q2
      · simp only [gI_uI, gI_rI, gI_uL, gI_rL, gI_uR, gL_uL, gL_rL, gL_uI, gL_rI, gL_uR, gR_uI, gR_rI, gR_uL, gR_rL, gR_uR]; simp [hj2]; exact q3
      · obtain ⟨d1, d2, d3, d4⟩ := q4 hq
        refine ⟨by rw [cL _ (by omega)]; exact d1, CA_eq (fun i a b => cI _ (by omega) (by omega)) d2, ?_, d4⟩
        refine MR_cong d4 (fun i hi => ?_) d3
        rw [gI_rI, if_pos rfl, cpyN_out (by omega)]
        rfl
theorem x_restore (h : At T g un hs sl hl σ) {k : Nat} (hk : k < 3) (hq : hl k = 1) : ∃ σ', M_X8_restore σ (nI k) = some (1, σ') ∧ At T (sl k) 0 hs sl hl σ' := by
  obtain ⟨τ, t, l, tp, nx, h1, h2, h3, ⟨n1, n2, n3, n4⟩, ⟨u1, u2, u3, u4, u5, u6⟩, h6, h7⟩ := h
  obtain ⟨q1, q2, q3, q4⟩ := h6 k hk
  obtain ⟨d1, d2, d3, d4⟩ := q4 hq
  obtain ⟨σ1, p1, p2, p3, p4, p5, p6⟩ := c_take (σ := σ) (g0 := 28) (g1 := 37 + 9 * k) (by omega)
  have e8 : M_X8_restore σ (nI k) = some (1, uI σ1 66 2 0) := by
    unfold M_X8_restore M_X2_forget
    rw [c_isSlot_t hk, bnd1_some, if_neg (by decide), chk_pos ((ib_nI (by omega)).mpr hk), ix_nI (by omega), q2, hq, if_pos (by decide), chk_pos ((ib_nI (by omega)).mpr hk), p1, bnd1_some]
    rfl
  refine ⟨_, e8, uI (rI τ 25 (va_cpy (τ.1 36) (τ.1 25) (770 * k) 0 770)) 0 51 0, t, l, tp, nx, ?_⟩
  have cI : ∀ c, c ≠ 66 → (c < 30 ∨ 34 < c) → (uI σ1 66 2 0).1 c = σ.1 c := fun c a b => by
    have : (uI σ1 66 2 0).1 c = σ1.1 c := by unfold uI rI; simp [a]
    exact this.trans (p3 c (by omega))
  have cL : ∀ c, c ≠ 29 → (uI σ1 66 2 0).2.1 c = σ.2.1 c := fun c a => p2 c (by omega)
  have cM : ∀ c, c ≠ 0 → c ≠ 25 → (uI (rI τ 25 (va_cpy (τ.1 36) (τ.1 25) (770 * k) 0 770)) 0 51 0).1 c = τ.1 c := fun c a b => by unfold uI rI; simp [a, b]
  have cO : ∀ j, j ≠ 51 → gI (uI (rI τ 25 (va_cpy (τ.1 36) (τ.1 25) (770 * k) 0 770)) 0 51 0) 0 j = gI τ 0 j := fun j hj => by simp only [gI_uI, gI_rI, gI_uL, gI_rL, gI_uR, gL_uL, gL_rL, gL_uI, gL_rI, gL_uR, gR_uI, gR_rI, gR_uL, gR_rL, gR_uR]; simp [hj]
  refine ⟨?_, ?_, RText_eq (congrFun p4 0) (fun c a b => cI c (by omega) (by omega)) (cO 18 (by decide)) (fun c a b => cM c (by omega) (by omega)) h3, ⟨?_, ?_, ?_, d4⟩, ⟨by decide, u2, by simp only [gI_uI, gI_rI, gI_uL, gI_rL, gI_uR, gL_uL, gL_rL, gL_uI, gL_rI, gL_uR, gR_uI, gR_rI, gR_uL, gR_rL, gR_uR]; simp; rfl, ?_, by simp only [gI_uI, gI_rI, gI_uL, gI_rL, gI_uR, gL_uL, gL_rL, gL_uI, gL_rI, gL_uR, gR_uI, gR_rI, gR_uL, gR_rL, gR_uR]; simp; rfl, fun u hu => absurd hu (by omega)⟩, RHeld_eq (cI 65 (by decide) (by omega)) (fun c a b => ⟨cI c (by omega) (by omega), cL c (by omega)⟩) (cM 35 (by decide) (by decide)) (cM 36 (by decide) (by decide)) h6, RKeys_eq rfl h7⟩
  · obtain ⟨a, b, c, d⟩ := h1
    refine ⟨a, (congrFun (cI 0 (by decide) (by omega)) 1).trans b, (cO 2 (by decide)).trans c, fun i hi => ?_⟩
    rw [show gI (uI σ1 66 2 0) 1 i = gI σ 1 i from congrFun (cI 1 (by decide) (by omega)) i, show gI (uI (rI τ 25 (va_cpy (τ.1 36) (τ.1 25) (770 * k) 0 770)) 0 51 0) 1 i = gI τ 1 i from congrFun (cM 1 (by decide) (by decide)) i]
    exact d i hi
  · exact (congrFun (cI 0 (by decide) (by omega)) 2).trans (h2.trans (cO 17 (by decide)).symm)
  · exact CR_cong d4 (fun i hi => (p5 i hi).trans (by rw [show 37 + 9 * k + 1 = 38 + 9 * k by omega])) d1
  · refine CA_take d4 (fun i w a b c => ?_) d2
    rw [gI_uI, if_neg (by omega)]
    exact p6 i w a b c
  · refine MR_cong d4 (fun i hi => ?_) d3
    have e1 : (uI (rI τ 25 (va_cpy (τ.1 36) (τ.1 25) (770 * k) 0 770)) 0 51 0).1 25 = va_cpy (τ.1 36) (τ.1 25) (770 * k) 0 770 := by unfold uI rI; simp
    rw [e1]
    have := cpyN_at (f := τ.1 36) (g := τ.1 25) (sp := 770 * k) (dp := 0) (n := 770) hi
    rwa [Nat.zero_add] at this
  · rw [gI_uI, if_neg (by omega)]
    exact (congrFun (p3 66 (by omega)) 1).trans u4
theorem x_restore0 (h : At T g un hs sl hl σ) {k : Nat} (hk : k < 3) (hz : hl k = 0) : M_X8_restore σ (nI k) = some (0, σ) := by
  obtain ⟨τ, t, l, tp, nx, h1, h2, h3, ⟨n1, n2, n3, n4⟩, ⟨u1, u2, u3, u4, u5, u6⟩, h6, h7⟩ := h
  obtain ⟨q1, q2, q3, q4⟩ := h6 k hk
  unfold M_X8_restore
  rw [c_isSlot_t hk, bnd1_some, if_neg (by decide), chk_pos ((ib_nI (by omega)).mpr hk), ix_nI (by omega), q2, hz, if_neg (by decide)]
end AT
