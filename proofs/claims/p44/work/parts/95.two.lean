/-! reading on, both sides -/
abbrev VK (n : Nat) : Prop := n ≤ 10 ∨ n = 13 ∨ n = 15 ∨ (20 ≤ n ∧ n ≤ 30)
theorem ck_inj : ∀ a b : Fin 31, VK a.val → VK b.val → ck a.val = ck b.val → a.val = b.val := by decide +kernel
theorem ck_big : ∀ a : Fin 31, ck a.val ≤ 200 := by decide +kernel
theorem sgk_VK (n : Nat) : VK (sgk n) ∧ sgk n ≠ 0 := by
  unfold sgk
  constructor <;> (repeat' split) <;> decide
theorem kTk_VK {u : Nat → Nat} {e k : Nat} : VK (kTk u e k) ∧ (sq u e k < e → kTk u e k ≠ 0) ∧ (¬ sq u e k < e → kTk u e k = 0) := by
  unfold kTk
  by_cases h : sq u e k < e
  · rw [if_pos h]
    unfold tkK
    have kw : VK (kwF (wM u (sq u e k) (tkQ u e (sq u e k) - sq u e k)) 11) := by
      rcases kwF_1 (m := wM u (sq u e k) (tkQ u e (sq u e k) - sq u e k)) 11 with q | ⟨i, i1, _, q⟩
      · rw [q]; decide
      · rw [q]; unfold VK; omega
    refine ⟨?_, fun _ => ?_, fun z => absurd h z⟩
    · split
      · split
        · exact kw
        · decide
      · split
        · split <;> decide
        · exact (sgk_VK _).1
    · split
      · split
        · exact (kwF_2 _).2
        · decide
      · split
        · split <;> decide
        · exact (sgk_VK _).2
  · rw [if_neg h]
    exact ⟨by decide, fun z => absurd z h, fun _ => rfl⟩
theorem VK_lt {n : Nat} (h : VK n) : n < 31 := by unfold VK at h; omega
theorem ck_eq {a b : Nat} (ha : VK a) (hb : VK b) : nI (ck a) = nI (ck b) ↔ a = b := by
  have h1 := ck_big ⟨a, VK_lt ha⟩
  have h2 := ck_big ⟨b, VK_lt hb⟩
  have h1 : ck a ≤ 200 := h1
  have h2 : ck b ≤ 200 := h2
  rw [nI_eq (by omega) (by omega)]
  exact ⟨fun z => ck_inj ⟨a, VK_lt ha⟩ ⟨b, VK_lt hb⟩ ha hb z, fun z => by rw [z]⟩
/-- the base -/
def Bs (u : Nat → Nat) (e n0 g l P fl pd : Nat) (σ0 τ0 σ τ : Wd) : Prop :=
  (Rch u e P ∧ P ≤ 400 ∧ n0 ≤ 401 ∧ Rch u e n0 ∧ (sq u e n0 = e ∨ n0 = 401) ∧ pd ≤ 1) ∧
  (TokC u e σ0 ∧ gI σ 6 3 = nI n0 ∧ gI σ 6 4 = nI P ∧ gI σ 2 7 = 0 ∧ gR σ 2 6 = g ∧ (g = 10 ∨ g = 19) ∧ FRc g σ0 σ) ∧
  (TokM u e τ0 ∧ gI τ 0 11 = nI P ∧ gI τ 0 13 = 0 ∧ gI τ 0 19 = nI l ∧ l < 2 ∧ FRm l τ0 τ) ∧
  (gI σ 2 9 = nI fl ∧ gI τ 0 15 = nI fl ∧ fl ≤ 6 ∧ (fl ≠ 0 → ∃ j, j < P + pd ∧ gI σ 2 10 = nI (sq u e j) ∧ gI τ 0 16 = nI (sq u e j))) ∧
  (∃ s, s ≤ 400 ∧ gI σ g 13 = nI s ∧ (fl = 0 → gI σ 2 10 = -1))
/-- both in one fault -/
def FLT (g l : Nat) (σ0 τ0 σ τ : Wd) : Prop := ∃ σf τf, FRc g σ0 σf ∧ FRm l τ0 τf ∧ gI σf 2 7 = gI τf 0 13 ∧ gI σf 2 8 = gI τf 0 14 ∧ CFT g σf σ ∧ MFT l τf τ
def flC (σ : Wd) (f p : Nat) : Wd := uI (uI σ 2 7 (nI f)) 2 8 (nI p)
def flM (τ : Wd) (f p : Nat) : Wd := uI (uI τ 0 13 (nI f)) 0 14 (nI p)
section TW
variable {u : Nat → Nat} {e n0 g l P fl pd : Nat} {σ0 τ0 σ τ : Wd}
theorem Bs.row (h : Bs u e n0 g l P fl pd σ0 τ0 σ τ) : gI σ 7 P = nI (ck (kTk u e P)) ∧ gI σ 8 P = nI (sq u e P) ∧ (kTk u e P = 1 → gL σ 9 P = lN (cv 8 (vTk u e P)) ∧ vTk u e P < 27 ^ 8) ∧ (kTk u e P = 2 → gL σ 9 P = lN (vTk u e P) ∧ vTk u e P ≤ 9999) ∧ gI τ 3 P = nI (kTk u e P) ∧ gI τ 4 P = nI (sq u e P) ∧ (kTk u e P = 1 → gL τ 6 P = lN (vTk u e P)) ∧ (kTk u e P = 2 → gI τ 5 P = nI (vTk u e P)) := by
  obtain ⟨⟨a1, a2, _⟩, ⟨b1, _, _, _, _, bg, bf⟩, ⟨c1, _, _, _, cl, cf⟩, _⟩ := h
  obtain ⟨r1, r2, r3, r4⟩ := b1 P a2 a1
  obtain ⟨m1, m2, m3, m4⟩ := c1 P a2 a1
  have n7 : ¬ (g ≤ 7 ∧ 7 ≤ g + 8) := by rcases bg with z | z <;> rw [z] <;> decide
  have n8 : ¬ (g ≤ 8 ∧ 8 ≤ g + 8) := by rcases bg with z | z <;> rw [z] <;> decide
  have e7 : gI σ 7 P = gI σ0 7 P := congrFun (bf.1 7 (by decide) (by decide) (by decide) (by decide) n7) P
  have e8 : gI σ 8 P = gI σ0 8 P := congrFun (bf.1 8 (by decide) (by decide) (by decide) (by decide) n8) P
  have e9 : gL σ 9 P = gL σ0 9 P := congrFun (bf.2.1 9 (by decide)) P
  have f3 : gI τ 3 P = gI τ0 3 P := cf.1 3 P (by unfold okm; omega)
  have f4 : gI τ 4 P = gI τ0 4 P := cf.1 4 P (by unfold okm; omega)
  have f5 : gI τ 5 P = gI τ0 5 P := cf.1 5 P (by unfold okm; omega)
  have f6 : gL τ 6 P = gL τ0 6 P := congrFun (cf.2.1 6 (by decide)) P
  rw [e7, e8, e9, f3, f4, f5, f6]
  exact ⟨r1, r2, r3, r4, m1, m2, m3, m4⟩
theorem Bs.lt (h : Bs u e n0 g l P fl pd σ0 τ0 σ τ) (hk : kTk u e P ≠ 0) : P < n0 ∧ Rch u e (P + 1) ∧ sq u e P < e := by
  obtain ⟨⟨a1, a2, a3, a4, a5, _⟩, _⟩ := h
  have hs : sq u e P < e := Classical.byContradiction fun z => hk (kTk_VK.2.2 z)
  have hR : Rch u e (P + 1) := fun j hj => by
    by_cases e0 : j = P
    · rw [e0]; exact hs
    · exact a1 j (by omega)
  refine ⟨Classical.byContradiction fun z => ?_, hR, hs⟩
  rcases a5 with q | q
  · by_cases e0 : n0 = P
    · rw [← e0] at hs; omega
    · have := a1 n0 (by omega); omega
  · omega
/-- the fault begins -/
theorem Bs.fault (h : Bs u e n0 g l P fl pd σ0 τ0 σ τ) {f : Nat} (hf : f = 1 ∨ f = 2) : FLT g l σ0 τ0 (flC σ f (sq u e P)) (flM τ f (sq u e P)) := by
  obtain ⟨⟨a1, a2, _⟩, ⟨b1, b2, b3, b4, b5, bg, bf⟩, ⟨c1, c2, c3, c4, cl, cf⟩, _, ⟨s, s1, s2, _⟩⟩ := h
  have h7 : gI (flC σ f (sq u e P)) 2 7 = nI f := by unfold flC; rw [gI_uI, if_neg (by omega), gI_s]
  have h8 : gI (flC σ f (sq u e P)) 2 8 = nI (sq u e P) := gI_s
  have k13 : gI (flM τ f (sq u e P)) 0 13 = nI f := by unfold flM; rw [gI_uI, if_neg (by omega), gI_s]
  have k14 : gI (flM τ f (sq u e P)) 0 14 = nI (sq u e P) := gI_s
  have rc : FRc g σ0 (flC σ f (sq u e P)) := FRc.wI (Or.inl rfl) (FRc.wI (Or.inl rfl) bf)
  have rm : FRm l τ0 (flM τ f (sq u e P)) := FRm.wI (by unfold okm; omega) (FRm.wI (by unfold okm; omega) cf)
  refine ⟨_, _, rc, rm, h7.trans k13.symm, h8.trans k14.symm, ⟨FRc.refl, ?_, rfl, rfl, b5, bg, ⟨P, a2, ?_⟩, ⟨s, s1, ?_⟩⟩, ⟨FRm.refl, ?_, rfl, rfl, ?_, cl, ⟨P, a2, ?_⟩⟩⟩
  · rw [h7]; rcases hf with rfl | rfl <;> decide
  · unfold flC; rw [gI_uI, if_neg (by omega), gI_uI, if_neg (by omega)]; exact b3
  · unfold flC; rw [gI_uI, if_neg (by omega), gI_uI, if_neg (by omega)]; exact s2
  · rw [k13]; rcases hf with rfl | rfl <;> decide
  · unfold flM; rw [gI_uI, if_neg (by omega), gI_uI, if_neg (by omega)]; exact c4
  · unfold flM; rw [gI_uI, if_neg (by omega), gI_uI, if_neg (by omega)]; exact c2
theorem b_start (h : Bs u e n0 g l P fl pd σ0 τ0 σ τ) : M_X6_start σ = some (nI (sq u e P)) ∧ M_X6_kind σ = some (nI (ck (kTk u e P))) := by
  obtain ⟨r1, r2, _⟩ := h.row
  obtain ⟨⟨a1, a2, _⟩, ⟨b1, b2, b3, b4, b5, bg, bf⟩, _⟩ := h
  unfold M_X6_start M_X6_kind
  rw [b3, chk_pos ((ib_nI (by omega)).mpr (by omega)), chk_pos ((ib_nI (by omega)).mpr (by omega)), ix_nI (by omega), r1, r2]
  exact ⟨rfl, rfl⟩
theorem b_fail (h : Bs u e n0 g l P fl pd σ0 τ0 σ τ) {f : Nat} (hf : f = 1 ∨ f = 2) : M_X3_fail σ (nI f) = some (flC σ f (sq u e P)) ∧ M_X9_fail τ (nI f) = some (flM τ f (sq u e P)) := by
  obtain ⟨r1, r2, _, _, _, m2, _⟩ := h.row
  obtain ⟨⟨a1, a2, _⟩, ⟨b1, b2, b3, b4, b5, bg, bf⟩, ⟨c1, c2, c3, c4, cl, cf⟩, _⟩ := h
  unfold M_X3_fail M_X9_fail M_X6_start flC flM
  rw [b4, c3, if_neg z00, if_pos (show (0 : Int32) ≤ 0 by decide)]
  simp only [lt_eq]
  rw [show gI (uI σ 2 7 (nI f)) 6 4 = nI P by rw [gI_uI, if_neg (by omega)]; exact b3, chk_pos ((ib_nI (by omega)).mpr (by omega)), ix_nI (by omega), bnd1_some, show gI (uI σ 2 7 (nI f)) 8 P = nI (sq u e P) by rw [gI_uI, if_neg (by omega)]; exact r2, show gI (uI τ 0 13 (nI f)) 0 11 = nI P by rw [gI_uI, if_neg (by omega)]; exact c2, chk_pos ((ib_nI (by omega)).mpr (by omega)), ix_nI (by omega), show gI (uI τ 0 13 (nI f)) 4 P = nI (sq u e P) by rw [gI_uI, if_neg (by omega)]; exact m2]
  exact ⟨rfl, rfl⟩
theorem b_is (h : Bs u e n0 g l P fl pd σ0 τ0 σ τ) {k : Nat} (hk : k < 31) : M_X9_is τ (nI k) = some (boI (decide (kTk u e P = k))) := by
  obtain ⟨_, _, _, _, m1, _⟩ := h.row
  have hv := VK_lt (kTk_VK (u := u) (e := e) (k := P)).1
  obtain ⟨⟨a1, a2, _⟩, _, ⟨c1, c2, c3, c4, cl, cf⟩, _⟩ := h
  unfold M_X9_is
  rw [c3, if_neg z00, c2, chk_pos ((ib_nI (by omega)).mpr (by omega)), ix_nI (by omega), m1]
  by_cases e0 : kTk u e P = k
  · rw [if_neg (fun z => z (by rw [e0])), decide_eq_true e0]; rfl
  · rw [if_pos (fun z => e0 ((nI_eq (by omega) (by omega)).mp z)), decide_eq_false e0]; rfl
theorem b_goes (h : Bs u e n0 g l P fl pd σ0 τ0 σ τ) : M_X9_goesOn τ = some (if P < 400 then uI τ 0 11 (nI (P + 1)) else flM τ 2 (sq u e P)) := by
  obtain ⟨f1, f2⟩ := b_fail h (f := 2) (Or.inr rfl)
  have f2 : M_X9_fail τ 2 = _ := f2
  obtain ⟨⟨a1, a2, _⟩, _, ⟨c1, c2, c3, c4, cl, cf⟩, _⟩ := h
  unfold M_X9_goesOn
  rw [c2]
  by_cases h4 : P < 400
  · rw [if_pos (show nI P ≠ 400 from fun z => by have := (nI_eq (b := 400) (by omega) (by omega)).mp z; omega), if_pos h4, nI_1]
    rfl
  · rw [if_neg (fun z => z (show nI P = 400 by rw [show P = 400 by omega]; rfl)), f2, bnd1_some, if_neg h4]
theorem b_take (h : Bs u e n0 g l P fl pd σ0 τ0 σ τ) {k : Nat} (hk : VK k) (hk0 : k ≠ 0) : M_X3_take σ (nI (ck k)) = some (if kTk u e P = k then (if P < 400 then uI σ 6 4 (nI (P + 1)) else flC σ 2 (sq u e P)) else flC σ 1 (sq u e P)) := by
  obtain ⟨f1, _⟩ := b_fail h (f := 1) (Or.inl rfl)
  obtain ⟨f2, _⟩ := b_fail h (f := 2) (Or.inr rfl)
  have f1 : M_X3_fail σ 1 = _ := f1
  have f2 : M_X3_fail σ 2 = _ := f2
  obtain ⟨_, kd⟩ := b_start h
  have hlt := h.lt
  obtain ⟨⟨a1, a2, a3, _⟩, ⟨b1, b2, b3, b4, b5, bg, bf⟩, _⟩ := h
  unfold M_X3_take M_X6_isOneTooMany M_X6_advance
  rw [b4, if_pos rfl, kd, bnd1_some, b3, b2]
  by_cases e0 : kTk u e P = k
  · rw [if_pos (by rw [e0]), if_pos e0]
    by_cases h4 : P < 400
    · obtain ⟨q1, _⟩ := hlt (by rw [e0]; exact hk0)
      rw [if_pos (show nI P < 400 from (nI_ltI (b := 400) (by omega) (by omega)).mpr h4), bnd1_some, if_pos rfl, if_neg (fun z => by have := (nI_leI (by omega) (by omega)).mp z; omega), if_pos h4, nI_1]
      rfl
    · rw [if_neg (show ¬ nI P < 400 from fun z => h4 ((nI_ltI (b := 400) (by omega) (by omega)).mp z)), bnd1_some, if_neg n10, f2, bnd1_some, if_neg h4]
  · rw [if_neg (fun z => e0 ((ck_eq kTk_VK.1 hk).mp z)), f1, bnd1_some, if_neg e0]
theorem b_must (h : Bs u e n0 g l P fl pd σ0 τ0 σ τ) {k : Nat} (hk : VK k) : M_X9_must τ (nI k) = some (if kTk u e P = k then (if P < 400 then uI τ 0 11 (nI (P + 1)) else flM τ 2 (sq u e P)) else flM τ 1 (sq u e P)) := by
  obtain ⟨_, f1⟩ := b_fail h (f := 1) (Or.inl rfl)
  have f1 : M_X9_fail τ 1 = _ := f1
  unfold M_X9_must
  rw [b_is h (VK_lt hk), bnd1_some]
  by_cases e0 : kTk u e P = k
  · rw [decide_eq_true e0, if_neg (show ¬ boI true = 0 by decide), b_goes h, bnd1_some, if_pos e0]
  · rw [decide_eq_false e0, if_pos (show boI false = 0 from rfl), f1, bnd1_some, if_neg e0]
end TW
