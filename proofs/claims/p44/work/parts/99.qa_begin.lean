/-! all begins anew -/
def gB (p : Nat) : Gs := (fun a _ _ => if a = 2 then p else 0, fun _ _ => 0)
theorem MR_B {p : Nat} {f : Nat → Int32} (h2 : f 2 = nI p) (hz : ∀ k, k < 770 → k ≠ 2 → f k = 0) : MR (gB p) f :=
  ⟨⟨hz 0 (by omega) (by omega), hz 1 (by omega) (by omega), h2, hz 3 (by omega) (by omega), hz 4 (by omega) (by omega)⟩, fun k hk => absurd hk (Nat.not_lt_zero k), fun c hc => ⟨hz _ (by omega) (by omega), fun j hj => hz _ (by omega) (by omega)⟩, fun s hs => ⟨hz _ (by omega) (by omega), hz _ (by omega) (by omega), hz _ (by omega) (by omega), fun o ho => ⟨hz _ (by omega) (by omega), hz _ (by omega) (by omega)⟩⟩, fun w hw => absurd hw (Nat.not_lt_zero w), fun i hi => absurd hi (Nat.not_lt_zero i), fun c w hc hw => hz _ (by omega) (by omega)⟩
theorem Inv_B {n m p : Nat} (h1 : 1 ≤ n) (h5 : n ≤ 5) (hp : p < n) : Inv n m (gB p) := ⟨⟨Nat.zero_le _, Nat.le_refl _, hp, Nat.zero_le _, h5, h1⟩, fun k hk => absurd hk (Nat.not_lt_zero k), fun _ _ => Nat.le_refl _, rfl, fun _ _ => Nat.zero_le _, fun _ _ h => absurd h (show ¬ (0 : Nat) = 1 by decide), fun _ i _ hi => absurd hi (Nat.not_lt_zero i), fun i hi => absurd hi (Nat.not_lt_zero i), fun i _ hi => absurd hi (Nat.not_lt_zero i), fun w hw => absurd hw (Nat.not_lt_zero w), fun w v _ hv => absurd hv (Nat.not_lt_zero v), fun s _ => ⟨Nat.zero_le _, fun _ => ⟨Nat.zero_le _, Nat.zero_le _⟩⟩, fun _ _ _ _ _ => rfl, fun _ _ => rfl⟩
theorem CR_B {n p : Nat} {r : Nat → Int64} (h0 : r 0 = lN n) (h1 : r 1 = lN p) (hz : ∀ j, j < 96 → 2 ≤ j → r j = 0) : CR n (gB p) r := by
  refine ⟨⟨h0, h1, hz _ (by decide) (by decide), hz _ (by decide) (by decide), hz _ (by decide) (by decide), hz _ (by decide) (by decide)⟩, fun k hk => absurd hk (Nat.not_lt_zero k), fun c _ => ⟨fun w hw => ?_, hz _ (by omega) (by omega), by rw [hz _ (by omega) (by omega)]; rfl, by rw [hz _ (by omega) (by omega)]; rfl, by rw [hz _ (by omega) (by omega)]; rfl, by rw [hz _ (by omega) (by omega)]; rfl⟩, fun s _ => ⟨hz _ (by omega) (by omega), by rw [hz _ (by omega) (by omega)]; rfl, by rw [hz _ (by omega) (by omega)]; rfl, fun o _ => ⟨hz _ (by omega) (by omega), hz _ (by omega) (by omega)⟩⟩⟩
  rw [hz _ (by omega) (by omega), show (0 : Int64).toBitVec = 0#64 from rfl, show gA (gB p) c w = 0 from rfl]
  simp
theorem CA_B {p b : Nat} {σ : Wd} : CA (gB p) b σ := ⟨fun w hw => absurd hw (Nat.not_lt_zero w), fun i hi => absurd hi (Nat.not_lt_zero i)⟩
theorem c_begin2 {σ : Wd} (v1 v2 : Int32) : ∃ σ', M_X1_begin σ v1 v2 = some σ' ∧ σ'.1 = σ.1 ∧ σ'.2.2 = σ.2.2 ∧ (∀ c, c ≠ 29 → σ'.2.1 c = σ.2.1 c) ∧ gL σ' 29 0 = v1.toInt64 ∧ gL σ' 29 1 = v2.toInt64 ∧ ∀ j, j < 96 → 2 ≤ j → gL σ' 29 j = 0 := by
  obtain ⟨x, h1, h2⟩ := ow_for (body := fun s : Int32 × Wd => M_X1_begin_L2 v1 v2 s.1 s.2) (Q := fun x => x.1 = σ.1 ∧ x.2.2 = σ.2.2 ∧ (∀ c, c ≠ 29 → x.2.1 c = σ.2.1 c) ∧ ∀ j, j < 96 → gL x 29 j = 0) (fun i s => s.1 = nI i ∧ s.2.1 = σ.1 ∧ s.2.2.2 = σ.2.2 ∧ (∀ c, c ≠ 29 → s.2.2.1 c = σ.2.1 c) ∧ ∀ j, j < i → gL s.2 29 j = 0) 96 (FU_big (by decide)) (fun i s hi ⟨q1, q2, q3, q4, q5⟩ => by
    obtain ⟨s1, s2⟩ := s
    have q1 : s1 = nI i := q1
    subst q1
    show ow (M_X1_begin_L2 v1 v2 (nI i) s2) _
    unfold M_X1_begin_L2
    rw [if_neg (fun z => by have := (nI_leI (a := 96) (b := i) (by decide) (by omega)).mp z; omega), chk_pos ((ib_nI (by omega)).mpr hi), ix_nI (by omega), nI_1]
    simp only [lt_eq]
    refine ow_some.mpr ⟨rfl, q2, q3, fun c hc => ?_, fun j hj => ?_⟩
    · rw [show (uL s2 29 i 0).2.1 c = s2.2.1 c by unfold uL rL; simp [hc]]
      exact q4 c hc
    · show gL (uL s2 29 i 0) 29 j = 0
      rw [gL_uL]
      by_cases q : j = i
      · rw [if_pos ⟨rfl, q⟩]
      · rw [if_neg (fun z => q z.2)]
        exact q5 j (by omega)) (fun s ⟨q1, q2, q3, q4, q5⟩ => by
    obtain ⟨s1, s2⟩ := s
    have q1 : s1 = nI 96 := q1
    subst q1
    show ow (M_X1_begin_L2 v1 v2 (nI 96) s2) _
    unfold M_X1_begin_L2
    rw [if_pos (by decide)]
    exact ow_some.mpr ⟨q2, q3, q4, q5⟩) 0 ((0 : Int32), σ) (Nat.zero_le _) ⟨rfl, rfl, rfl, fun _ _ => rfl, fun j hj => absurd hj (Nat.not_lt_zero j)⟩
  obtain ⟨p1, p2, p3, p4⟩ := h2
  unfold M_X1_begin
  rw [show iter (fun s : Int32 × Wd => M_X1_begin_L2 v1 v2 s.1 s.2) FU ((0 : Int32), σ) = some x from h1]
  simp only [bnd1_some, un1]
  rw [chk_pos (by decide)]
  simp only [lt_eq]
  rw [chk_pos (by decide)]
  refine ⟨_, rfl, p1, p2, fun c hc => ?_, ?_, ?_, fun j hj hj2 => ?_⟩
  · rw [show (uL (uL x 29 (ix 0) v1.toInt64) 29 (ix 1) v2.toInt64).2.1 c = x.2.1 c by unfold uL rL; simp [hc]]
    exact p3 c hc
  · rw [gL_uL, if_neg (by decide), gL_uL, if_pos ⟨rfl, rfl⟩]
  · rw [gL_uL, if_pos ⟨rfl, rfl⟩]
  · rw [gL_uL, if_neg (fun z => by have := z.2; have : j = 1 := z.2; omega), gL_uL, if_neg (fun z => by have : j = 0 := z.2; omega)]
    exact p4 j hj
theorem m_begins2 {τ : Wd} {l : Nat} (hl : l < 2) (h18 : gI τ 0 18 = nI l) : ∃ τ', M_X9_begins τ = some τ' ∧ (∀ c, c ≠ 26 → c ≠ 0 → τ'.1 c = τ.1 c) ∧ (∀ k, k ≠ 43 → gI τ' 0 k = gI τ 0 k) ∧ τ'.2 = τ.2 ∧ gI τ' 26 2 = gI τ 11 l ∧ ∀ k, k < 770 → k ≠ 2 → gI τ' 26 k = 0 := by
  obtain ⟨x, h1, h2⟩ := ow_for (body := fun s : Int32 × Wd => M_X9_begins_L2 s.1 s.2) (Q := fun x => x.2 = τ.2 ∧ (∀ c, c ≠ 26 → x.1 c = τ.1 c) ∧ ∀ k, k < 770 → gI x 26 k = 0) (fun i s => s.1 = nI i ∧ s.2.2 = τ.2 ∧ (∀ c, c ≠ 26 → s.2.1 c = τ.1 c) ∧ ∀ k, k < i → gI s.2 26 k = 0) 770 (FU_big (by decide)) (fun i s hi ⟨q1, q2, q3, q4⟩ => by
    obtain ⟨s1, s2⟩ := s
    have q1 : s1 = nI i := q1
    subst q1
    show ow (M_X9_begins_L2 (nI i) s2) _
    unfold M_X9_begins_L2
    rw [if_neg (fun z => by have := (nI_leI (a := 770) (b := i) (by decide) (by omega)).mp z; omega), chk_pos ((ib_nI (by omega)).mpr hi), ix_nI (by omega), nI_1]
    simp only [lt_eq]
    refine ow_some.mpr ⟨rfl, q2, fun c hc => ?_, fun j hj => ?_⟩
    · funext k
      show gI (uI s2 26 i 0) c k = gI τ c k
      rw [gI_uI, if_neg (fun z => hc z.1)]
      exact congrFun (q3 c hc) k
    · show gI (uI s2 26 i 0) 26 j = 0
      rw [gI_uI]
      by_cases q : j = i
      · rw [if_pos ⟨rfl, q⟩]
      · rw [if_neg (fun z => q z.2)]
        exact q4 j (by omega)) (fun s ⟨q1, q2, q3, q4⟩ => by
    obtain ⟨s1, s2⟩ := s
    have q1 : s1 = nI 770 := q1
    subst q1
    show ow (M_X9_begins_L2 (nI 770) s2) _
    unfold M_X9_begins_L2
    rw [if_pos (by decide)]
    exact ow_some.mpr ⟨q2, q3, q4⟩) 0 ((0 : Int32), τ) (Nat.zero_le _) ⟨rfl, rfl, fun _ _ => rfl, fun j hj => absurd hj (Nat.not_lt_zero j)⟩
  obtain ⟨p1, p2, p3⟩ := h2
  have e0 : ∀ c k, c ≠ 26 → gI x c k = gI τ c k := fun c k hc => congrFun (p2 c hc) k
  unfold M_X9_begins
  rw [show iter (fun s : Int32 × Wd => M_X9_begins_L2 s.1 s.2) FU ((0 : Int32), τ) = some x from h1]
  simp only [bnd1_some, un1, lt_eq]
  have y18 : gI (uI x 26 (ix (2 : Int32)) (gI x 11 (ix (nI l)))) 0 18 = nI l := by rw [gI_uI, if_neg (by omega), e0 0 18 (by omega)]; exact h18
  rw [e0 0 18 (by omega), h18, chk_pos ((ib_nI (by omega)).mpr hl), chk_pos (by decide), y18, chk_pos ((ib_nI (by omega)).mpr hl)]
  refine ⟨_, rfl, fun c h1 h2 => ?_, fun k hk => ?_, p1, ?_, fun k hk hk2 => ?_⟩
  · funext k
    show gI _ c k = gI τ c k
    rw [gI_uI, if_neg (by omega), gI_uI, if_neg (by omega), e0 c k h1]
  · rw [gI_uI, if_neg (by omega), gI_uI, if_neg (by omega), e0 0 k (by omega)]
  · rw [gI_uI, if_neg (by omega), show gI (uI x 26 (ix (2 : Int32)) (gI x 11 (ix (nI l)))) 26 2 = gI x 11 (ix (nI l)) from gI_s, ix_nI (by omega), e0 11 l (by omega)]
  · rw [gI_uI, if_neg (by omega), gI_uI, if_neg (fun z => by have : k = 2 := z.2; omega)]
    exact p3 k hk
/-- three flags are taken back -/
def fl3 (σ : Wd) (c : Nat) : Wd := uI (uI (uI σ c 0 0) c 1 0) c 2 0
theorem c_flags {σ : Wd} : iter (fun s : Int32 × Wd => M_X8_beginAnew_L30 s.1 s.2) FU ((0 : Int32), σ) = some (fl3 σ 65) := by
  have nar0 : vp_nar .boolean (0 : Int32) = 0 := by decide
  obtain ⟨n, hn⟩ : ∃ n, FU = n + 4 := ⟨FU - 4, by have := FU_big (n := 100) (by decide); omega⟩
  have st : ∀ (i : Nat) (s : Wd), i < 3 → M_X8_beginAnew_L30 (nI i) s = some (.inl (nI (i + 1), uI s 65 i 0)) := fun i s hi => by
    unfold M_X8_beginAnew_L30
    simp only [lt_eq]
    rw [if_neg (show ¬ (3 : Int32) ≤ nI i from fun z => by have := (nI_leI (a := 3) (by omega) (by omega)).mp z; omega), chk_pos ((ib_nI (by omega)).mpr hi), ix_nI (by omega), nar0, nI_1]
  rw [hn, it_s (body := fun s : Int32 × Wd => M_X8_beginAnew_L30 s.1 s.2) (st 0 σ (by decide)), it_s (body := fun s : Int32 × Wd => M_X8_beginAnew_L30 s.1 s.2) (st 1 _ (by decide)), it_s (body := fun s : Int32 × Wd => M_X8_beginAnew_L30 s.1 s.2) (st 2 _ (by decide))]
  refine it_x ?_
  show M_X8_beginAnew_L30 (nI 3) _ = _
  unfold M_X8_beginAnew_L30
  rw [if_pos (show (3 : Int32) ≤ nI 3 by decide)]
  rfl
theorem m_flags {τ : Wd} : iter (fun s : Int32 × Wd => M_X9_read_L240 s.1 s.2) FU ((0 : Int32), τ) = some (fl3 τ 35) := by
  have nar0 : vp_nar .boolean (0 : Int32) = 0 := by decide
  obtain ⟨n, hn⟩ : ∃ n, FU = n + 4 := ⟨FU - 4, by have := FU_big (n := 100) (by decide); omega⟩
  have st : ∀ (i : Nat) (s : Wd), i < 3 → M_X9_read_L240 (nI i) s = some (.inl (nI (i + 1), uI s 35 i 0)) := fun i s hi => by
    unfold M_X9_read_L240
    simp only [lt_eq]
    rw [if_neg (show ¬ (3 : Int32) ≤ nI i from fun z => by have := (nI_leI (a := 3) (by omega) (by omega)).mp z; omega), chk_pos ((ib_nI (by omega)).mpr hi), ix_nI (by omega), nar0, nI_1]
  rw [hn, it_s (body := fun s : Int32 × Wd => M_X9_read_L240 s.1 s.2) (st 0 τ (by decide)), it_s (body := fun s : Int32 × Wd => M_X9_read_L240 s.1 s.2) (st 1 _ (by decide)), it_s (body := fun s : Int32 × Wd => M_X9_read_L240 s.1 s.2) (st 2 _ (by decide))]
  refine it_x ?_
  show M_X9_read_L240 (nI 3) _ = _
  unfold M_X9_read_L240
  rw [if_pos (show (3 : Int32) ≤ nI 3 by decide)]
  rfl
