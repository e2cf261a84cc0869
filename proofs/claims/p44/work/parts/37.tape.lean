/-! the parts of the relation over what is kept; the tape; undo, hold, restore -/
theorem RText_eq {T : Td} {t l : Nat} {σ τ σ' τ' : Wd} (h1 : σ'.2.2 0 = σ.2.2 0) (h2 : ∀ c, 10 ≤ c → c ≤ 27 → σ'.1 c = σ.1 c) (h3 : gI τ' 0 18 = gI τ 0 18) (h4 : ∀ c, 10 ≤ c → c ≤ 21 → τ'.1 c = τ.1 c) (h : RText T t l σ τ) : RText T t l σ' τ' := by
  obtain ⟨a, b, c, d, e, f, j, k⟩ := h
  exact ⟨a, (congrFun h1 4).trans b, (congrFun h1 5).trans c, d, h3.trans e, f, TC_eq (fun j hj => h2 _ (by omega) (by omega)) j, TM_eq h4 k⟩
theorem RNow_eq {T : Td} {g : Gs} {σ τ σ' τ' : Wd} (h1 : σ'.2.1 29 = σ.2.1 29) (h2 : ∀ c, 30 ≤ c → c ≤ 34 → σ'.1 c = σ.1 c) (h3 : τ'.1 25 = τ.1 25) (h : RNow T g σ τ) : RNow T g σ' τ' := by
  obtain ⟨a, b, c, d⟩ := h
  exact ⟨by rw [h1]; exact a, CA_eq (fun j q1 q2 => h2 _ (by omega) (by omega)) b, by rw [h3]; exact c, d⟩
theorem RHist_eq {T : Td} {g : Gs} {un nx : Nat} {hs : Nat → Gs} {σ τ σ' τ' : Wd} (h1 : gI σ' 66 1 = gI σ 66 1) (h2 : gI σ' 66 2 = gI σ 66 2) (h3 : ∀ c, 68 ≤ c → c < 108 → σ'.2.1 c = σ.2.1 c) (h4 : ∀ c, 30 ≤ c → c ≤ 34 → σ'.1 c = σ.1 c) (h5 : gI τ' 0 51 = gI τ 0 51) (h6 : τ'.1 32 = τ.1 32) (h : RHist T g un nx hs σ τ) : RHist T g un nx hs σ' τ' := by
  obtain ⟨a, b, c, d, e, f⟩ := h
  refine ⟨a, b, h2.trans c, h1.trans d, h5.trans e, fun u hu => ?_⟩
  obtain ⟨f1, f2, f3, f4⟩ := f u hu
  have hm := Nat.mod_lt (nx + 40 - un + u) (show 40 > 0 by decide)
  refine ⟨by rw [h3 _ (by omega) (by omega)]; exact f1, CA_eq (fun j q1 q2 => h4 _ (by omega) (by omega)) f2, ?_, f4⟩
  rw [show gI τ' 32 = gI τ 32 from h6]
  exact f3
theorem RHeld_eq {T : Td} {sl : Nat → Gs} {hl : Nat → Nat} {σ τ σ' τ' : Wd} (h1 : σ'.1 65 = σ.1 65) (h2 : ∀ c, 37 ≤ c → c ≤ 63 → σ'.1 c = σ.1 c ∧ σ'.2.1 c = σ.2.1 c) (h3 : τ'.1 35 = τ.1 35) (h4 : τ'.1 36 = τ.1 36) (h : RHeld T sl hl σ τ) : RHeld T sl hl σ' τ' := by
  intro k hk
  obtain ⟨a, b, c, d⟩ := h k hk
  refine ⟨a, (congrFun h1 k).trans b, (congrFun h3 k).trans c, fun hq => ?_⟩
  obtain ⟨d1, d2, d3, d4⟩ := d hq
  refine ⟨by rw [(h2 _ (by omega) (by omega)).2]; exact d1, CA_eq (fun j q1 q2 => (h2 _ (by omega) (by omega)).1) d2, ?_, d4⟩
  rw [show gI τ' 36 = gI τ 36 from h4]
  exact d3
theorem RKeys_eq {τ τ' : Wd} (h1 : τ'.2.1 7 = τ.2.1 7) (h : RKeys τ) : RKeys τ' := fun k hk => (congrFun h1 k).trans (h k hk)
/-- what laying bytes keeps: p is the place of the number of bytes -/
def KT (p : Nat) (σ σ' : Wd) : Prop := (∀ c, c ≠ 0 → c ≠ 1 → σ'.1 c = σ.1 c) ∧ σ'.2 = σ.2 ∧ ∀ k, k ≠ p → gI σ' 0 k = gI σ 0 k
theorem KT.refl {p : Nat} {σ : Wd} : KT p σ σ := ⟨fun _ _ _ => rfl, rfl, fun _ _ => rfl⟩
def bT (p tp : Nat) (σ : Wd) (x : Int32) : Wd := uI (uI σ 1 tp x.toInt8.toInt32) 0 p (nI (tp + 1))
theorem KT.b {p tp : Nat} {σ σ' : Wd} {x : Int32} (h : KT p σ σ') : KT p σ (bT p tp σ' x) := by
  obtain ⟨h1, h2, h3⟩ := h
  refine ⟨fun c c0 c1 => ?_, h2, fun k hk => ?_⟩
  · unfold bT uI rI; simp [c0, c1]; exact h1 c c0 c1
  · unfold bT; simp only [gI_uI, gI_rI, gI_uL, gI_rL, gI_uR, gL_uL, gL_rL, gL_uI, gL_rI, gL_uR, gR_uI, gR_rI, gR_uL, gR_rL, gR_uR]; simp [hk]; exact h3 k hk
theorem bT_n {p tp : Nat} {σ : Wd} {x : Int32} : gI (bT p tp σ x) 0 p = nI (tp + 1) := by
  unfold bT; simp only [gI_uI, gI_rI, gI_uL, gI_rL, gI_uR, gL_uL, gL_rL, gL_uI, gL_rI, gL_uR, gR_uI, gR_rI, gR_uL, gR_rL, gR_uR]; simp
theorem bT_1 {p tp : Nat} {σ : Wd} {x : Int32} {i : Nat} : gI (bT p tp σ x) 1 i = if i = tp then x.toInt8.toInt32 else gI σ 1 i := by
  unfold bT; simp only [gI_uI, gI_rI, gI_uL, gI_rL, gI_uR, gL_uL, gL_rL, gL_uI, gL_rI, gL_uR, gR_uI, gR_rI, gR_uL, gR_rL, gR_uR]; simp
/-- both lay the same byte -/
def FT (tp : Nat) (σ0 τ0 σ τ : Wd) : Prop := RTape tp σ τ ∧ KT 1 σ0 σ ∧ KT 2 τ0 τ
theorem FT.b {tp : Nat} {σ0 τ0 σ τ : Wd} {x : Int32} (h : FT tp σ0 τ0 σ τ) (ht : tp < 2000) : FT (tp + 1) σ0 τ0 (bT 1 tp σ x) (bT 2 tp τ x) := by
  obtain ⟨⟨h1, h2, h3, h4⟩, h5, h6⟩ := h
  refine ⟨⟨by omega, bT_n, bT_n, fun i hi => ?_⟩, h5.b, h6.b⟩
  rw [bT_1, bT_1]
  by_cases hq : i = tp
  · rw [if_pos hq, if_pos hq]
    exact ⟨rfl, by simp⟩
  · rw [if_neg hq, if_neg hq]
    exact h4 i (by omega)
theorem it_s {S X : Type} {body : S → Option (S ⊕ X)} {n : Nat} {s s' : S} (h : body s = some (.inl s')) : iter body (n + 1) s = iter body n s' := by
  rw [iter]
  rw [h]
theorem it_x {S X : Type} {body : S → Option (S ⊕ X)} {n : Nat} {s : S} {x : X} (h : body s = some (.inr x)) : iter body (n + 1) s = some x := by
  rw [iter]
  rw [h]
theorem m_lay1 {τ : Wd} {tp : Nat} {v w w' : Int32} (he : w + -8 = w') (h : gI τ 0 2 = nI tp) (ht : tp < 2000) (hw : ¬ w < 0) : M_X9_lays_L3 v w τ = some (.inl (w', bT 2 tp τ (v >>> (w &&& 31)))) := by
  subst he
  unfold M_X9_lays_L3
  rw [if_neg hw, h, chk_pos ((ib_nI (by omega)).mpr ht), ix_nI (by omega)]
  simp only [lt_eq]
  rw [gI_uI, if_neg (show ¬ (0 = 1 ∧ 2 = tp) from fun e => absurd e.1 (by decide)), h, nI_1]
  unfold bT
  rw [pk_vb]
theorem c_lay1 {τ : Wd} {tp : Nat} {v w w' : Int32} (he : w + -8 = w') (h : gI τ 0 1 = nI tp) (ht : tp < 2000) (hw : ¬ w < 0) : M_X8_addBytes_L3 v w τ = some (.inl (w', bT 1 tp τ (v >>> (w &&& 31)))) := by
  subst he
  unfold M_X8_addBytes_L3
  rw [if_neg hw, h, if_neg (by rw [show (2000 : Int32) = nI 2000 from rfl, nI_leI (by omega) (by omega)]; omega), chk_pos ((ib_nI (by omega)).mpr ht), ix_nI (by omega)]
  simp only [lt_eq]
  rw [gI_uI, if_neg (show ¬ (0 = 1 ∧ 1 = tp) from fun e => absurd e.1 (by decide)), h, nI_1]
  unfold bT
  rw [pk_vb]
theorem m_lays {τ : Wd} {tp : Nat} {v : Int32} (h : gI τ 0 2 = nI tp) (ht : tp + 4 ≤ 2000) : M_X9_lays τ v = some (bT 2 (tp + 3) (bT 2 (tp + 2) (bT 2 (tp + 1) (bT 2 tp τ (v >>> (24 &&& 31))) (v >>> (16 &&& 31))) (v >>> (8 &&& 31))) (v >>> (0 &&& 31))) := by
  unfold M_X9_lays
  obtain ⟨n, hn⟩ : ∃ n, FU = n + 1 + 1 + 1 + 1 + 1 := ⟨999995, by unfold FU; omega⟩
  rw [hn, it_s (s' := (16, _)) (m_lay1 (w := 24) (by decide) h (by omega) (by decide)), it_s (s' := (8, _)) (m_lay1 (w := 16) (by decide) bT_n (by omega) (by decide)), it_s (s' := (0, _)) (m_lay1 (w := 8) (by decide) bT_n (by omega) (by decide)), it_s (s' := (-8, _)) (m_lay1 (w := 0) (by decide) bT_n (by omega) (by decide)), it_x (by unfold M_X9_lays_L3; exact if_pos (show (-8 : Int32) < 0 by decide))]
  rfl
theorem c_lays {τ : Wd} {tp : Nat} {v : Int32} (h : gI τ 0 1 = nI tp) (ht : tp + 4 ≤ 2000) : M_X8_addBytes τ v = some (bT 1 (tp + 3) (bT 1 (tp + 2) (bT 1 (tp + 1) (bT 1 tp τ (v >>> (24 &&& 31))) (v >>> (16 &&& 31))) (v >>> (8 &&& 31))) (v >>> (0 &&& 31))) := by
  unfold M_X8_addBytes
  obtain ⟨n, hn⟩ : ∃ n, FU = n + 1 + 1 + 1 + 1 + 1 := ⟨999995, by unfold FU; omega⟩
  rw [hn, it_s (s' := (16, _)) (c_lay1 (w := 24) (by decide) h (by omega) (by decide)), it_s (s' := (8, _)) (c_lay1 (w := 16) (by decide) bT_n (by omega) (by decide)), it_s (s' := (0, _)) (c_lay1 (w := 8) (by decide) bT_n (by omega) (by decide)), it_s (s' := (-8, _)) (c_lay1 (w := 0) (by decide) bT_n (by omega) (by decide)), it_x (by unfold M_X8_addBytes_L3; exact if_pos (show (-8 : Int32) < 0 by decide))]
  rfl
theorem FT.lays {tp : Nat} {σ0 τ0 σ τ : Wd} {v : Int32} (h : FT tp σ0 τ0 σ τ) (ht : tp + 4 ≤ 2000) : ∃ σ' τ', M_X8_addBytes σ v = some σ' ∧ M_X9_lays τ v = some τ' ∧ FT (tp + 4) σ0 τ0 σ' τ' :=
  ⟨_, _, c_lays h.1.2.1 ht, m_lays h.1.2.2.1 ht, (((h.b (by omega)).b (by omega)).b (by omega)).b (by omega)⟩
theorem Rel_FT {σ τ σ' τ' : Wd} {T : Td} {t l tp tp' un nx : Nat} {g : Gs} {hs sl : Nat → Gs} {hl : Nat → Nat} (hF : RTape tp' σ' τ') (kσ : KT 1 σ σ') (kτ : KT 2 τ τ') (h : RTape tp σ τ ∧ gI σ 0 2 = gI τ 0 17 ∧ RText T t l σ τ ∧ RNow T g σ τ ∧ RHist T g un nx hs σ τ ∧ RHeld T sl hl σ τ ∧ RKeys τ) : Rel σ' τ' := by
  obtain ⟨h1, h2, h3, h4, h5, h6, h7⟩ := h
  obtain ⟨a1, a2, a3⟩ := kσ
  obtain ⟨b1, b2, b3⟩ := kτ
  refine Rel_iff.mpr ⟨T, t, l, tp', un, nx, g, hs, sl, hl, hF, (a3 2 (by decide)).trans (h2.trans (b3 17 (by decide)).symm), RText_eq (by rw [a2]) (fun c q1 q2 => a1 c (by omega) (by omega)) (b3 18 (by decide)) (fun c q1 q2 => b1 c (by omega) (by omega)) h3, RNow_eq (by rw [a2]) (fun c q1 q2 => a1 c (by omega) (by omega)) (b1 25 (by decide) (by decide)) h4, RHist_eq (congrFun (a1 66 (by decide) (by decide)) 1) (congrFun (a1 66 (by decide) (by decide)) 2) (fun c q1 q2 => by rw [a2]) (fun c q1 q2 => a1 c (by omega) (by omega)) (b3 51 (by decide)) (b1 32 (by decide) (by decide)) h5, RHeld_eq (a1 65 (by decide) (by decide)) (fun c q1 q2 => ⟨a1 c (by omega) (by omega), by rw [a2]⟩) (b1 35 (by decide) (by decide)) (b1 36 (by decide) (by decide)) h6, RKeys_eq (by rw [b2]) h7⟩
theorem st_0 : Sp_0 Rel := by
  intro σ τ h a b c d e
  have h0 := h
  obtain ⟨T, t, l, tp, un, nx, g, hs, sl, hl, h1⟩ := Rel_iff.mp h
  obtain ⟨t1, t2, t3, t4⟩ := h1.1
  unfold M_X8_feed M_X9_feed
  rw [t2, t3, show (20 : Int32) = nI 20 from rfl, show (2000 : Int32) = nI 2000 from rfl, nI_add]
  by_cases hq : tp + 20 ≤ 2000
  · have hq' := (nI_leI (a := tp + 20) (b := 2000) (by omega) (by decide)).mpr hq
    rw [if_pos hq', if_pos hq']
    obtain ⟨σ1, τ1, p1, q1, f1⟩ := FT.lays (v := a) (σ0 := σ) (τ0 := τ) ⟨h1.1, KT.refl, KT.refl⟩ (by omega)
    obtain ⟨σ2, τ2, p2, q2, f2⟩ := FT.lays (v := b) f1 (by omega)
    obtain ⟨σ3, τ3, p3, q3, f3⟩ := FT.lays (v := c) f2 (by omega)
    obtain ⟨σ4, τ4, p4, q4, f4⟩ := FT.lays (v := d) f3 (by omega)
    obtain ⟨σ5, τ5, p5, q5, f5⟩ := FT.lays (v := e) f4 (by omega)
    rw [p1, bnd1_some, p2, bnd1_some, p3, bnd1_some, p4, bnd1_some, p5, bnd1_some, q1, bnd1_some, q2, bnd1_some, q3, bnd1_some, q4, bnd1_some, q5, bnd1_some]
    exact ⟨_, _, _, rfl, by rw [f5.1.2.1, f5.1.2.2.1], Rel_FT f5.1 f5.2.1 f5.2.2 h1⟩
  · have hq' : ¬ nI (tp + 20) ≤ nI 2000 := fun z => hq ((nI_leI (by omega) (by decide)).mp z)
    rw [if_neg hq', if_neg hq']
    exact ⟨_, _, _, rfl, rfl, h0⟩
theorem st_1 : Sp_1 Rel := by
  intro σ τ h a
  have h0 := h
  obtain ⟨T, t, l, tp, un, nx, g, hs, sl, hl, h1⟩ := Rel_iff.mp h
  obtain ⟨t1, t2, t3, t4⟩ := h1.1
  unfold M_X8_back M_X9_back
  rw [t2, t3]
  rcases bd_cases a (n := tp + 1) (by omega) with ⟨j, hj, rfl⟩ | ha
  · have hq' := (nI_leI (a := j) (b := tp) (by omega) (by omega)).mpr (by omega)
    rw [if_neg (nI_n0 (by omega)), if_neg (nI_n0 (by omega)), if_pos hq', if_pos hq']
    simp only [lt_eq]
    rw [pk_sub (by omega)]
    have k1 : ∀ (p : Nat) (s : Wd), KT p s (uI s 0 p (nI (tp - j))) := fun p s => by
      refine ⟨fun c c0 c1 => ?_, rfl, fun k hk => ?_⟩
      · unfold uI rI; simp [c0]
      · simp only [gI_uI, gI_rI, gI_uL, gI_rL, gI_uR, gL_uL, gL_rL, gL_uI, gL_rI, gL_uR, gR_uI, gR_rI, gR_uL, gR_rL, gR_uR]; simp [hk]
    refine ⟨_, _, _, rfl, ?_, Rel_FT (tp' := tp - j) ⟨by omega, ?_, ?_, fun i hi => ?_⟩ (k1 1 σ) (k1 2 τ) h1⟩
    · simp only [gI_uI, gI_rI, gI_uL, gI_rL, gI_uR, gL_uL, gL_rL, gL_uI, gL_rI, gL_uR, gR_uI, gR_rI, gR_uL, gR_rL, gR_uR]; simp
    · simp only [gI_uI, gI_rI, gI_uL, gI_rL, gI_uR, gL_uL, gL_rL, gL_uI, gL_rI, gL_uR, gR_uI, gR_rI, gR_uL, gR_rL, gR_uR]; simp
    · simp only [gI_uI, gI_rI, gI_uL, gI_rL, gI_uR, gL_uL, gL_rL, gL_uI, gL_rI, gL_uR, gR_uI, gR_rI, gR_uL, gR_rL, gR_uR]; simp
    · simp only [gI_uI, gI_rI, gI_uL, gI_rL, gI_uR, gL_uL, gL_rL, gL_uI, gL_rI, gL_uR, gR_uI, gR_rI, gR_uL, gR_rL, gR_uR]; simp
      exact t4 i (by omega)
  · by_cases hz : a < 0
    · rw [if_pos hz, if_pos hz]
      exact ⟨_, _, _, rfl, rfl, h0⟩
    · have hq' : ¬ a ≤ nI tp := nI_le_not (nI_lt0 ha hz) (by omega)
      rw [if_neg hz, if_neg hz, if_neg hq', if_neg hq']
      exact ⟨_, _, _, rfl, rfl, h0⟩
