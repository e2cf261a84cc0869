/-! the text told: its bytes -/
theorem getL_app (a b : List Int32) (i : Nat) : (a ++ b).getD i 0 = if i < a.length then a.getD i 0 else b.getD (i - a.length) 0 := by
  rw [List.getD_eq_getElem?_getD, List.getElem?_append]
  by_cases h : i < a.length
  · rw [if_pos h, if_pos h, List.getD_eq_getElem?_getD]
  · rw [if_neg h, if_neg h, List.getD_eq_getElem?_getD]
/-- the four bytes of a word -/
def by4 (v : Int32) : List Int32 := [(v >>> (24 &&& 31)).toInt8.toInt32, (v >>> (16 &&& 31)).toInt8.toInt32, (v >>> (8 &&& 31)).toInt8.toInt32, (v >>> (0 &&& 31)).toInt8.toInt32]
/-- both tapes hold this list of bytes, nothing else is changed -/
def TP (ts : List Int32) (σ0 τ0 σ τ : Wd) : Prop := FT ts.length σ0 τ0 σ τ ∧ ∀ i, i < ts.length → gI σ 1 i = ts.getD i 0
theorem TP.lay {ts : List Int32} {σ0 τ0 σ τ : Wd} {v : Int32} (h : TP ts σ0 τ0 σ τ) (ht : ts.length + 4 ≤ 2000) : ∃ σ' τ', M_X8_addBytes σ v = some σ' ∧ M_X9_lays τ v = some τ' ∧ TP (ts ++ by4 v) σ0 τ0 σ' τ' := by
  obtain ⟨h1, h2⟩ := h
  have hl : (ts ++ by4 v).length = ts.length + 4 := by rw [List.length_append]; rfl
  refine ⟨_, _, c_lays h1.1.2.1 ht, m_lays h1.1.2.2.1 ht, by rw [hl]; exact (((h1.b (by omega)).b (by omega)).b (by omega)).b (by omega), fun i hi => ?_⟩
  rw [hl] at hi
  rw [bT_1, bT_1, bT_1, bT_1, getL_app]
  by_cases a3 : i = ts.length + 3
  · rw [if_pos a3, if_neg (by omega), a3, Nat.add_sub_cancel_left]; rfl
  rw [if_neg a3]
  by_cases a2 : i = ts.length + 2
  · rw [if_pos a2, if_neg (by omega), a2, Nat.add_sub_cancel_left]; rfl
  rw [if_neg a2]
  by_cases a1 : i = ts.length + 1
  · rw [if_pos a1, if_neg (by omega), a1, Nat.add_sub_cancel_left]; rfl
  rw [if_neg a1]
  by_cases a0 : i = ts.length
  · rw [if_pos a0, if_neg (by omega), a0, Nat.sub_self]; rfl
  rw [if_neg a0, if_pos (by omega)]
  exact h2 i (by omega)
/-- words laid, and some bytes taken back -/
theorem TP.put {ts : List Int32} {σ0 τ0 σ τ : Wd} {m : Nat} {v2 v3 v4 v5 v6 : Int32} (h : TP ts σ0 τ0 σ τ) (hm : m ≤ 20) (ht : ts.length + 20 ≤ 2000) : ∃ σ' τ', M_L_put σ (nI m) v2 v3 v4 v5 v6 = some σ' ∧ TP (ts ++ (by4 v2 ++ by4 v3 ++ by4 v4 ++ by4 v5 ++ by4 v6).take m) σ0 τ0 σ' τ' := by
  have l4 : ∀ v, (by4 v).length = 4 := fun _ => rfl
  have hn := h.1.1.2.1
  obtain ⟨σ1, τ1, p1, _, f1⟩ := h.lay (v := v2) (by omega)
  obtain ⟨σ2, τ2, p2, _, f2⟩ := f1.lay (v := v3) (by simp only [List.length_append, l4]; omega)
  obtain ⟨σ3, τ3, p3, _, f3⟩ := f2.lay (v := v4) (by simp only [List.length_append, l4]; omega)
  obtain ⟨σ4, τ4, p4, _, f4⟩ := f3.lay (v := v5) (by simp only [List.length_append, l4]; omega)
  obtain ⟨σ5, τ5, p5, _, f5⟩ := f4.lay (v := v6) (by simp only [List.length_append, l4]; omega)
  have e5 : ts ++ by4 v2 ++ by4 v3 ++ by4 v4 ++ by4 v5 ++ by4 v6 = ts ++ (by4 v2 ++ by4 v3 ++ by4 v4 ++ by4 v5 ++ by4 v6) := by simp only [List.append_assoc]
  rw [e5] at f5
  generalize hB : by4 v2 ++ by4 v3 ++ by4 v4 ++ by4 v5 ++ by4 v6 = B at f5 ⊢
  have lB : B.length = 20 := by rw [← hB]; rfl
  obtain ⟨⟨⟨a1, a2, a3, a4⟩, k1, k2⟩, g5⟩ := f5
  rw [List.length_append, lB] at a1 a2 a3 a4
  have lt : (ts ++ B.take m).length = ts.length + m := by rw [List.length_append, List.length_take, lB]; omega
  have kk : ∀ (p : Nat) (s : Wd) (x : Int32), KT p s (uI s 0 p x) := fun p s x => by
    refine ⟨fun c c0 c1 => ?_, rfl, fun k hk => ?_⟩
    · unfold uI rI; simp [c0]
    · rw [gI_uI, if_neg (fun z => hk z.2)]
  have tr : ∀ {p : Nat} {a b c : Wd}, KT p a b → KT p b c → KT p a c := fun {p a b c} x y => ⟨fun q h1 h2 => (y.1 q h1 h2).trans (x.1 q h1 h2), y.2.1.trans x.2.1, fun q h1 => (y.2.2 q h1).trans (x.2.2 q h1)⟩
  refine ⟨uI σ5 0 1 (nI (ts.length + m)), uI τ5 0 2 (nI (ts.length + m)), ?_, ⟨⟨by omega, ?_, ?_, fun i hi => ?_⟩, tr k1 (kk _ _ _), tr k2 (kk _ _ _)⟩, fun i hi => ?_⟩
  · have e20 : (20 : Int32) - nI m = nI (20 - m) := nI_nat (a := 20) (b := m) hm
    unfold M_L_put M_X8_feed
    rw [hn, show (20 : Int32) = nI 20 from rfl, nI_add, if_pos (show nI (ts.length + 20) ≤ (2000 : Int32) from (nI_leI (a := ts.length + 20) (b := 2000) (by omega) (by decide)).mpr ht), p1, bnd1_some, p2, bnd1_some, p3, bnd1_some, p4, bnd1_some, p5, bnd1_some, bnd2_some]
    unfold M_X8_back
    rw [show nI 20 - nI m = nI (20 - m) from e20, if_neg (nI_n0 (by omega)), a2, if_pos ((nI_leI (by omega) (by omega)).mpr (by omega)), lt_eq, bnd2_some, nI_nat (by omega), show ts.length + 20 - (20 - m) = ts.length + m by omega]
  · rw [lt, gI_uI, if_pos ⟨rfl, rfl⟩]
  · rw [lt, gI_uI, if_pos ⟨rfl, rfl⟩]
  · rw [lt] at hi
    rw [gI_uI, if_neg (fun z => absurd z.1 (by decide)), gI_uI, if_neg (fun z => absurd z.1 (by decide))]
    exact a4 i (by omega)
  · rw [lt] at hi
    rw [gI_uI, if_neg (fun z => absurd z.1 (by decide)), g5 i (by rw [List.length_append, lB]; omega), getL_app, getL_app]
    by_cases q : i < ts.length
    · rw [if_pos q, if_pos q]
    · rw [if_neg q, if_neg q, List.getD_eq_getElem?_getD, List.getD_eq_getElem?_getD, List.getElem?_take_of_lt (by omega)]
