/-! the reading begins -/
theorem bytes_u {x y : Nat → Int32} {tp : Nat} (h : ∀ i, i < tp → x i = y i ∧ (x i).toInt8.toInt32 = x i) : ∃ u : Nat → Nat, ∀ i, i < tp → u i < 256 ∧ x i = sb (u i) ∧ vp_nar .byte (y i) &&& 255 = nI (u i) := by
  have a : ∀ i, ∃ n : Nat, i < tp → n < 256 ∧ x i = sb n ∧ vp_nar .byte (y i) &&& 255 = nI n := fun i => by
    by_cases hi : i < tp
    · obtain ⟨h1, h2⟩ := h i hi
      obtain ⟨n, n1, n2, n3⟩ := sb_all (x i) h2
      refine ⟨n, fun _ => ⟨n1, n2, ?_⟩⟩
      rw [show vp_nar .byte (y i) = (y i).toInt8.toInt32 from rfl, ← h1, h2]
      exact n3
    · exact ⟨0, fun z => absurd z hi⟩
  exact Classical.axiomOfChoice a
/-- the class's world as the reading begins -/
def rdC (σ : Wd) (g : Nat) : Wd := uI (uI (uI (uI (uI (uI (uI (uI (uI (uI (uI (uR σ 2 6 g) g 0 3) g 1 0) g 2 0) g 3 0) g 4 0) g 13 0) 2 3 0) 2 7 0) 2 8 (-1)) 2 9 0) 2 10 (-1)
theorem rdC_R {σ : Wd} {g c k : Nat} : gR (rdC σ g) c k = if c = 2 ∧ k = 6 then g else gR σ c k := by
  show gR (uR σ 2 6 g) c k = _
  rw [gR_uR]
theorem rdC_o {σ : Wd} {g c : Nat} (h1 : c ≠ 2) (h2 : c ≠ g) : (rdC σ g).1 c = σ.1 c := by
  funext k
  show gI (rdC σ g) c k = gI σ c k
  unfold rdC
  rw [gI_uI, if_neg (fun z => h1 z.1), gI_uI, if_neg (fun z => h1 z.1), gI_uI, if_neg (fun z => h1 z.1), gI_uI, if_neg (fun z => h1 z.1), gI_uI, if_neg (fun z => h1 z.1), gI_uI, if_neg (fun z => h2 z.1), gI_uI, if_neg (fun z => h2 z.1), gI_uI, if_neg (fun z => h2 z.1), gI_uI, if_neg (fun z => h2 z.1), gI_uI, if_neg (fun z => h2 z.1), gI_uI, if_neg (fun z => h2 z.1)]
  rfl
theorem rdC_v {σ : Wd} {g : Nat} (hg : g = 10 ∨ g = 19) : gI (rdC σ g) 2 3 = 0 ∧ gI (rdC σ g) 2 7 = 0 ∧ gI (rdC σ g) 2 9 = 0 ∧ gI (rdC σ g) 2 10 = -1 ∧ gI (rdC σ g) g 0 = 3 ∧ gI (rdC σ g) g 1 = 0 ∧ gI (rdC σ g) g 2 = 0 ∧ gI (rdC σ g) g 3 = 0 ∧ gI (rdC σ g) g 4 = 0 ∧ gI (rdC σ g) g 13 = 0 := by
  unfold rdC
  rcases hg with rfl | rfl
  · refine ⟨?_, ?_, ?_, ?_, ?_, ?_, ?_, ?_, ?_, ?_⟩ <;> simp [gI_uI]
  · refine ⟨?_, ?_, ?_, ?_, ?_, ?_, ?_, ?_, ?_, ?_⟩ <;> simp [gI_uI]
theorem c_readInto {σ : Wd} {g : Nat} {v : Int32} (hg : g = 10 ∨ g = 19) : M_X3_readInto σ v g = bnd1 (M_X6_takeAll (rdC σ g) v) fun s_43 => bnd1 (iter (fun s : Int32 × Wd => M_X3_readInto_L49 g v s.1 s.2) FU ((0 : Int32), s_43)) (un1 fun sx_49 => (M_X3_readInto_J123 g sx_49 v)) := by
  unfold M_X3_readInto M_X7_clear
  simp only [lt_eq]
  rw [show gR (uR σ 2 6 g) 2 6 = g by rw [gR_uR, if_pos ⟨rfl, rfl⟩], chk_pos hg, bnd1_some]
  rfl
theorem c_start {σ : Wd} {u : Nat → Nat} {g e : Nat} (hg : g = 10 ∨ g = 19) (he : e ≤ 2000) (hu : ∀ i, i < e → u i < 256 ∧ gI σ 1 i = sb (u i)) : ∃ σs n, M_X3_readInto σ (nI e) g = bnd1 (iter (fun s : Int32 × Wd => M_X3_readInto_L49 g (nI e) s.1 s.2) FU ((0 : Int32), σs)) (un1 fun sx_49 => (M_X3_readInto_J123 g sx_49 (nI e))) ∧ TokC u e σs ∧ gI σs 6 4 = 0 ∧ gI σs 6 3 = nI n ∧ n ≤ 401 ∧ Rch u e n ∧ (sq u e n = e ∨ n = 401) ∧ (∀ k, gI σs 2 k = gI (rdC σ g) 2 k) ∧ (∀ k, gI σs g k = gI (rdC σ g) g k) ∧ (∀ c, c ≠ 2 → c ≠ 6 → c ≠ 7 → c ≠ 8 → c ≠ g → σs.1 c = σ.1 c) ∧ (∀ c, c ≠ 9 → σs.2.1 c = σ.2.1 c) ∧ (∀ c k, gR σs c k = if c = 2 ∧ k = 6 then g else gR σ c k) := by
  have hB : ByC u e (rdC σ g) := ⟨he, fun i hi => ⟨(hu i hi).1, by
    show (rdC σ g).1 1 i = _
    rw [rdC_o (by decide) (by omega)]
    exact (hu i hi).2⟩⟩
  obtain ⟨σs, t1, t2, t3, t4, n, n1, n2, n3, n4⟩ := c_takeAll hB
  refine ⟨σs, n, ?_, t4, t3, n2, n1, n3, n4, fun k => congrFun (t2.1 2 (by decide) (by decide) (by decide)) k, fun k => congrFun (t2.1 g (by omega) (by omega) (by omega)) k, fun c h1 h2 h3 h4 h5 => ?_, fun c hc => ?_, fun c k => ?_⟩
  · rw [c_readInto hg, t1, bnd1_some]
  · rw [t2.1 c h2 h3 h4, rdC_o h1 h5]
  · rw [t2.2.1 c hc]; rfl
  · show σs.2.2 c k = _
    rw [t2.2.2]
    exact rdC_R
theorem TokM_eq {u : Nat → Nat} {e : Nat} {τ τ' : Wd} (h : TokM u e τ) (h1 : ∀ c, c = 3 ∨ c = 4 ∨ c = 5 → τ'.1 c = τ.1 c) (h2 : τ'.2.1 6 = τ.2.1 6) : TokM u e τ' := fun k hk hr => by
  obtain ⟨a, b, c, d⟩ := h k hk hr
  refine ⟨(congrFun (h1 3 (by omega)) k).trans a, (congrFun (h1 4 (by omega)) k).trans b, fun z => (congrFun h2 k).trans (c z), fun z => (congrFun (h1 5 (by omega)) k).trans (d z)⟩
/-- the model's world behind the cutting -/
def rdM (τ : Wd) (l : Nat) : Wd := uI (uI (uI (uI (uI (uI (uI (uI (uI (uI (uI (uI τ 0 11 0) 0 12 0) 0 13 0) 0 15 0) 0 19 (nI l)) 0 20 0) 10 l 3) 11 l 0) 12 l 0) 14 l 0) 19 l 0) 0 33 (nI (420 * l))
theorem rdM_v {τ : Wd} {l : Nat} : gI (rdM τ l) 0 11 = 0 ∧ gI (rdM τ l) 0 12 = 0 ∧ gI (rdM τ l) 0 13 = 0 ∧ gI (rdM τ l) 0 15 = 0 ∧ gI (rdM τ l) 0 19 = nI l ∧ gI (rdM τ l) 0 20 = 0 ∧ gI (rdM τ l) 0 33 = nI (420 * l) ∧ gI (rdM τ l) 10 l = 3 ∧ gI (rdM τ l) 11 l = 0 ∧ gI (rdM τ l) 12 l = 0 ∧ gI (rdM τ l) 14 l = 0 ∧ gI (rdM τ l) 19 l = 0 := by
  unfold rdM
  refine ⟨?_, ?_, ?_, ?_, ?_, ?_, ?_, ?_, ?_, ?_, ?_, ?_⟩ <;> simp [gI_uI]
theorem rdM_o {τ : Wd} {l c k : Nat} (h0 : c = 0 → k ≠ 11 ∧ k ≠ 12 ∧ k ≠ 13 ∧ k ≠ 15 ∧ k ≠ 19 ∧ k ≠ 20 ∧ k ≠ 33) (h1 : ¬ ((c = 10 ∨ c = 11 ∨ c = 12 ∨ c = 14 ∨ c = 19) ∧ k = l)) : gI (rdM τ l) c k = gI τ c k := by
  unfold rdM
  rw [gI_uI, if_neg (by omega), gI_uI, if_neg (by omega), gI_uI, if_neg (by omega), gI_uI, if_neg (by omega), gI_uI, if_neg (by omega), gI_uI, if_neg (by omega), gI_uI, if_neg (by omega), gI_uI, if_neg (by omega), gI_uI, if_neg (by omega), gI_uI, if_neg (by omega), gI_uI, if_neg (by omega), gI_uI, if_neg (by omega)]
theorem m_start {τ : Wd} {u : Nat → Nat} {e l : Nat} (hl : l < 2) (he : e ≤ 2000) (h2 : gI τ 0 2 = nI e) (h18 : gI τ 0 18 = nI l) (hu : ∀ i, i < e → u i < 256 ∧ vp_nar .byte (gI τ 1 i) &&& 255 = nI (u i)) (hK : RKeys τ) : ∃ τc, M_X9_read τ = bnd1 (iter (fun s : Wd => M_X9_read_L100 s) FU (rdM τc (1 - l))) (un1 fun sx_100 => (M_X9_read_J122 sx_100)) ∧ TokM u e (rdM τc (1 - l)) ∧ (∀ c, c ≠ 0 → c ≠ 2 → c ≠ 3 → c ≠ 4 → c ≠ 5 → τc.1 c = τ.1 c) ∧ (∀ k, k ≠ 2 → k ≠ 4 → k ≠ 10 → gI τc 0 k = gI τ 0 k) ∧ gI τc 0 2 = 0 ∧ (∀ c, c ≠ 6 → τc.2.1 c = τ.2.1 c) := by
  obtain ⟨x, h1, q1, q2, q3⟩ := ow_for (body := fun s : Int32 × Wd => M_X9_read_L10 s.1 s.2) (Q := fun x => x.2 = τ.2 ∧ (∀ c k, c ≠ 2 → gI x c k = gI (uI τ 0 4 (nI e)) c k) ∧ ∀ j, j < e → gI x 2 j = vp_nar .byte (gI τ 1 j)) (fun i s => s.1 = nI i ∧ s.2.2 = τ.2 ∧ (∀ c k, c ≠ 2 → gI s.2 c k = gI (uI τ 0 4 (nI e)) c k) ∧ ∀ j, j < i → gI s.2 2 j = vp_nar .byte (gI τ 1 j)) e (FU_big (by omega)) (fun i s hi ⟨q1, q2, q3, q4⟩ => by
    obtain ⟨s1, s2⟩ := s
    have q1 : s1 = nI i := q1
    subst q1
    show ow (M_X9_read_L10 (nI i) s2) _
    unfold M_X9_read_L10
    have e4 : gI s2 0 4 = nI e := (q3 0 4 (by decide)).trans gI_s
    have e1 : gI s2 1 i = gI τ 1 i := (q3 1 i (by decide)).trans (by rw [gI_uI, if_neg (by omega)])
    have ci : ib (nI i) 2000 := (ib_nI (by omega)).mpr (by omega)
    rw [e4, if_neg (fun z => by have := (nI_leI (a := e) (b := i) (by omega) (by omega)).mp z; omega), chk_pos ci, chk_pos ci, ix_nI (by omega), nI_1, e1]
    simp only [lt_eq]
    refine ow_some.mpr ⟨rfl, q2, fun c k hc => ?_, fun j hj => ?_⟩
    · rw [show gI (uI s2 2 i (vp_nar .byte (gI τ 1 i))) c k = gI s2 c k by rw [gI_uI, if_neg (fun z => hc z.1)]]
      exact q3 c k hc
    · show gI (uI s2 2 i (vp_nar .byte (gI τ 1 i))) 2 j = _
      rw [gI_uI]
      by_cases q : j = i
      · rw [if_pos ⟨rfl, q⟩, q]
      · rw [if_neg (fun z => q z.2)]
        exact q4 j (by omega)) (fun s ⟨q1, q2, q3, q4⟩ => by
    obtain ⟨s1, s2⟩ := s
    have q1 : s1 = nI e := q1
    subst q1
    show ow (M_X9_read_L10 (nI e) s2) _
    unfold M_X9_read_L10
    have e4 : gI s2 0 4 = nI e := (q3 0 4 (by decide)).trans gI_s
    rw [e4, if_pos ((nI_leI (by omega) (by omega)).mpr (Nat.le_refl _))]
    exact ow_some.mpr ⟨q2, q3, q4⟩) 0 ((0 : Int32), uI τ 0 4 (nI e)) (Nat.zero_le _) ⟨rfl, rfl, fun _ _ _ => rfl, fun j hj => absurd hj (Nat.not_lt_zero j)⟩
  have hx2 : ∀ c k, gI (uI x 0 2 0) c k = if c = 0 ∧ k = 2 then 0 else gI x c k := fun c k => gI_uI
  have hB : ByM u e (uI x 0 2 0) := by
    refine ⟨he, ?_, fun i hi => ⟨(hu i hi).1, ?_⟩, RKeys_eq (by show x.2.1 7 = _; rw [q1]) hK⟩
    · rw [hx2, if_neg (by omega), q2 0 4 (by decide)]; exact gI_s
    · rw [hx2, if_neg (by omega), q3 i hi]; exact (hu i hi).2
  obtain ⟨τc, t1, t2, t3⟩ := m_cut hB
  have c0 : ∀ k, k ≠ 2 → k ≠ 4 → k ≠ 10 → gI τc 0 k = gI τ 0 k := fun k a b c => by
    rw [t2.2.2.2 k c, hx2, if_neg (fun z => a z.2), q2 0 k (by decide), gI_uI, if_neg (fun z => b z.2)]
  refine ⟨τc, ?_, TokM_eq t3 (fun c hc => ?_) rfl, fun c a0 a1 a2 a3 a4 => ?_, c0, ?_, fun c hc => ?_⟩
  · have hl1 : 1 - l < 2 := by omega
    have e19 : (1 : Int32) - nI l = nI (1 - l) := by
      rcases (show l = 0 ∨ l = 1 by omega) with rfl | rfl <;> rfl
    have e420 : (420 : Int32) * nI (1 - l) = nI (420 * (1 - l)) := by
      rw [show (420 : Int32) = nI 420 from rfl, pk_mul]
    unfold M_X9_read
    simp only [lt_eq]
    rw [h2, show iter (fun s : Int32 × Wd => M_X9_read_L10 s.1 s.2) FU ((0 : Int32), uI τ 0 4 (nI e)) = some x from h1, bnd1_some]
    simp only [un1]
    rw [t1, bnd1_some]
    rw [show gI (uI (uI (uI (uI τc 0 11 0) 0 12 0) 0 13 0) 0 15 0) 0 18 = nI l by rw [gI_uI, if_neg (by omega), gI_uI, if_neg (by omega), gI_uI, if_neg (by omega), gI_uI, if_neg (by omega), c0 18 (by omega) (by omega) (by omega)]; exact h18, e19]
    rw [show gI (uI (uI (uI (uI (uI (uI τc 0 11 0) 0 12 0) 0 13 0) 0 15 0) 0 19 (nI (1 - l))) 0 20 0) 0 19 = nI (1 - l) by rw [gI_uI, if_neg (by omega), gI_s], m_plain hl1, bnd1_some]
    rw [show gI (uI (uI (uI (uI (uI (uI (uI (uI (uI (uI (uI τc 0 11 0) 0 12 0) 0 13 0) 0 15 0) 0 19 (nI (1 - l))) 0 20 0) 10 (1 - l) 3) 11 (1 - l) 0) 12 (1 - l) 0) 14 (1 - l) 0) 19 (1 - l) 0) 0 19 = nI (1 - l) by rw [gI_uI, if_neg (by omega), gI_uI, if_neg (by omega), gI_uI, if_neg (by omega), gI_uI, if_neg (by omega), gI_uI, if_neg (by omega), gI_uI, if_neg (by omega), gI_s], e420]
    rfl
  · funext k
    show gI (rdM τc (1 - l)) c k = gI τc c k
    exact rdM_o (fun z => by omega) (by omega)
  · funext k
    show gI τc c k = gI τ c k
    rw [show gI τc c k = gI (uI x 0 2 0) c k from congrFun (t2.1 c a0 a2 a3 a4) k, hx2, if_neg (fun z => a0 z.1), q2 c k a1, gI_uI, if_neg (fun z => a0 z.1)]
  · rw [t2.2.2.2 2 (by decide), hx2, if_pos ⟨rfl, rfl⟩]
  · rw [t2.2.1 c hc]
    show x.2.1 c = _
    rw [q1]
