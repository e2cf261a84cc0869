/-! the worlds that the constructors lay -/
def g00 : Gs := (fun _ _ _ => 0, fun _ _ => 0)
def T00 : Td := (fun a _ => if a = 0 then 3 else 0, fun _ => 0, fun _ _ => [])
theorem uL_self {σ : Wd} {c k : Nat} : uL σ c k (gL σ c k) = σ := by
  unfold uL
  have : vp_updL (σ.2.1 c) k (gL σ c k) = σ.2.1 c := by
    funext x
    unfold vp_updL
    by_cases h : x = k
    · subst h; rw [if_pos rfl]; rfl
    · rw [if_neg h]
  rw [this, rL_self]
theorem c_begin : M_X1_begin sg8 3 0 = some (uL (uL sg8 29 0 (3 : Int32).toInt64) 29 1 (0 : Int32).toInt64) := by
  obtain ⟨x, h1, h2⟩ := ow_for (body := fun s : Int32 × Wd => M_X1_begin_L2 3 0 s.1 s.2) (Q := fun x => x = sg8) (fun i s => s = (nI i, sg8)) 96 (FU_big (by decide)) (fun i s hi hs => by
    subst hs
    show ow (M_X1_begin_L2 3 0 (nI i) sg8) _
    unfold M_X1_begin_L2
    rw [if_neg (fun z => by have := (nI_leI (a := 96) (b := i) (by decide) (by omega)).mp z; omega), chk_pos ((ib_nI (by omega)).mpr hi), ix_nI (by omega), nI_1]
    simp only [lt_eq]
    refine ow_some.mpr ?_
    show (nI (i + 1), uL sg8 29 i 0) = _
    rw [show uL sg8 29 i 0 = sg8 from uL_self]) (fun s hs => by
    subst hs
    show ow (M_X1_begin_L2 3 0 (nI 96) sg8) _
    unfold M_X1_begin_L2
    rw [if_pos (by decide)]
    exact ow_some.mpr rfl) 0 ((0 : Int32), sg8) (Nat.zero_le _) rfl
  unfold M_X1_begin
  rw [show iter (fun s : Int32 × Wd => M_X1_begin_L2 3 0 s.1 s.2) FU ((0 : Int32), sg8) = some x from h1, h2]
  simp only [bnd1_some, un1]
  rw [chk_pos (by decide)]
  simp only [lt_eq]
  rw [chk_pos (by decide)]
  rfl
theorem m_begins {τ : Wd} (h26 : ∀ k, gI τ 26 k = 0) (h18 : gI τ 0 18 = 0) : M_X9_begins τ = some (uI (uI τ 26 2 (gI τ 11 0)) 0 43 (gI τ 19 0)) := by
  obtain ⟨x, h1, h2⟩ := ow_for (body := fun s : Int32 × Wd => M_X9_begins_L2 s.1 s.2) (Q := fun x => x = τ) (fun i s => s = (nI i, τ)) 770 (FU_big (by decide)) (fun i s hi hs => by
    subst hs
    show ow (M_X9_begins_L2 (nI i) τ) _
    unfold M_X9_begins_L2
    rw [if_neg (fun z => by have := (nI_leI (a := 770) (b := i) (by decide) (by omega)).mp z; omega), chk_pos ((ib_nI (by omega)).mpr hi), ix_nI (by omega), nI_1]
    simp only [lt_eq]
    refine ow_some.mpr ?_
    show (nI (i + 1), uI τ 26 i 0) = _
    rw [show uI τ 26 i 0 = τ by rw [← h26 i]; exact uI_self]) (fun s hs => by
    subst hs
    show ow (M_X9_begins_L2 (nI 770) τ) _
    unfold M_X9_begins_L2
    rw [if_pos (by decide)]
    exact ow_some.mpr rfl) 0 ((0 : Int32), τ) (Nat.zero_le _) rfl
  unfold M_X9_begins
  rw [show iter (fun s : Int32 × Wd => M_X9_begins_L2 s.1 s.2) FU ((0 : Int32), τ) = some x from h1, h2]
  simp only [bnd1_some, un1, lt_eq]
  rw [h18, chk_pos (by decide), chk_pos (by decide), show gI (uI τ 26 (ix (2 : Int32)) (gI τ 11 (ix (0 : Int32)))) 0 18 = 0 from h18, chk_pos (by decide)]
  rfl
theorem MR_00 : MR g00 (fun _ => 0) := ⟨⟨rfl, rfl, rfl, rfl, rfl⟩, fun k hk => absurd hk (Nat.not_lt_zero k), fun c _ => ⟨rfl, fun _ _ => rfl⟩, fun s _ => ⟨rfl, rfl, rfl, fun _ _ => ⟨rfl, rfl⟩⟩, fun w hw => absurd hw (Nat.not_lt_zero w), fun i hi => absurd hi (Nat.not_lt_zero i), fun _ _ _ _ => rfl⟩
theorem Inv_00 : Inv 3 0 g00 := ⟨⟨Nat.zero_le _, Nat.le_refl _, by decide, Nat.zero_le _, by decide, by decide⟩, fun k hk => absurd hk (Nat.not_lt_zero k), fun _ _ => Nat.le_refl _, rfl, fun _ _ => Nat.zero_le _, fun _ _ h => absurd h (show ¬ (0 : Nat) = 1 by decide), fun _ i _ hi => absurd hi (Nat.not_lt_zero i), fun i hi => absurd hi (Nat.not_lt_zero i), fun i _ hi => absurd hi (Nat.not_lt_zero i), fun w hw => absurd hw (Nat.not_lt_zero w), fun w v _ hv => absurd hv (Nat.not_lt_zero v), fun s _ => ⟨Nat.zero_le _, fun _ => ⟨Nat.zero_le _, Nat.zero_le _⟩⟩, fun _ _ _ _ _ => rfl, fun _ _ => rfl⟩
theorem CR_00 {r : Nat → Int64} (h0 : r 0 = lN 3) (hz : ∀ j, j ≠ 0 → r j = 0) : CR 3 g00 r := by
  refine ⟨⟨h0, hz _ (by decide), hz _ (by decide), hz _ (by decide), hz _ (by decide), hz _ (by decide)⟩, fun k hk => absurd hk (Nat.not_lt_zero k), fun c _ => ⟨fun w hw => ?_, hz _ (by omega), by rw [hz _ (by omega)]; rfl, by rw [hz _ (by omega)]; rfl, by rw [hz _ (by omega)]; rfl, by rw [hz _ (by omega)]; rfl⟩, fun s _ => ⟨hz _ (by omega), by rw [hz _ (by omega)]; rfl, by rw [hz _ (by omega)]; rfl, fun o _ => ⟨hz _ (by omega), hz _ (by omega)⟩⟩⟩
  rw [hz _ (by omega), show (0 : Int64).toBitVec = 0#64 from rfl]
  simp [g00]
