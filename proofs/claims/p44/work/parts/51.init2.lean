/-! the first worlds are related -/
theorem m_plain {τ : Wd} {v : Nat} (hv : v < 2) : M_X9_plain τ (nI v) = some (uI (uI (uI (uI (uI τ 10 v 3) 11 v 0) 12 v 0) 14 v 0) 19 v 0) := by
  unfold M_X9_plain
  simp only [lt_eq, chk_pos ((ib_nI (n := v) (N := 2) (by omega)).mpr hv), ix_nI (show v < 2 ^ 31 by omega)]
def kyW (τ : Wd) : Wd := uL (uL (uL (uL (uL (uL (uL (uL (uL (uL (uL τ 7 (ix (0 : Int32)) (51339979 : Int64)) 7 (ix (1 : Int32)) (6462048238 : Int64)) 7 (ix (2 : Int32)) (63030 : Int64)) 7 (ix (3 : Int32)) (129532 : Int64)) 7 (ix (4 : Int32)) (7542361 : Int64)) 7 (ix (5 : Int32)) (378181 : Int64)) 7 (ix (6 : Int32)) (107681 : Int64)) 7 (ix (7 : Int32)) (377761 : Int64)) 7 (ix (8 : Int32)) (24 : Int64)) 7 (ix (9 : Int32)) (10492135 : Int64)) 7 (ix (10 : Int32)) (224982050 : Int64)
def pl2 : Wd := uI (uI (uI (uI (uI (uI (uI (uI (uI (uI sg9 10 0 3) 11 0 0) 12 0 0) 14 0 0) 19 0 0) 10 1 3) 11 1 0) 12 1 0) 14 1 0) 19 1 0
theorem kyW_I {τ : Wd} {c k : Nat} : gI (kyW τ) c k = gI τ c k := rfl
theorem kyW_L {τ : Wd} : ∀ k, k < 11 → gL (kyW τ) 7 k = keyv k := by
  intro k hk
  rcases (show k = 0 ∨ k = 1 ∨ k = 2 ∨ k = 3 ∨ k = 4 ∨ k = 5 ∨ k = 6 ∨ k = 7 ∨ k = 8 ∨ k = 9 ∨ k = 10 by omega) with rfl | rfl | rfl | rfl | rfl | rfl | rfl | rfl | rfl | rfl | rfl <;> rfl
theorem init_Rel : ∃ σ1 τ1 τ2 τ3 τ4, M_X1_begin sg8 3 0 = some σ1 ∧ M_X9_plain sg9 (0 : Int32) = some τ1 ∧ M_X9_plain τ1 (1 : Int32) = some τ2 ∧ M_X9_begins (kyW τ2) = some τ3 ∧ M_X9_keepsRow τ3 = some τ4 ∧ Rel σ1 τ4 := by
  refine ⟨_, _, pl2, _, _, c_begin, m_plain (v := 0) (by decide), m_plain (v := 1) (by decide), m_begins (τ := kyW pl2) (fun k => rfl) rfl, m_keepsRow, ?_⟩
  refine Rel_iff.mpr ⟨T00, 10, 0, 0, 0, 0, g00, fun _ => g00, fun _ => g00, fun _ => 0, ⟨by decide, rfl, rfl, fun i hi => absurd hi (Nat.not_lt_zero i)⟩, rfl, ⟨Or.inl rfl, rfl, rfl, by decide, rfl, ?_, ⟨⟨rfl, rfl, rfl, rfl, rfl⟩, fun c hc => absurd hc (Nat.not_lt_zero c), fun f hf => absurd hf (Nat.not_lt_zero f)⟩, ⟨⟨rfl, rfl, rfl, rfl, rfl⟩, fun c hc => absurd hc (Nat.not_lt_zero c), fun f hf => absurd hf (Nat.not_lt_zero f)⟩⟩, ⟨?_, ⟨fun w hw => absurd hw (Nat.not_lt_zero w), fun i hi => absurd hi (Nat.not_lt_zero i)⟩, ?_, Inv_00⟩, ⟨by decide, by decide, rfl, rfl, rfl, fun u hu => absurd hu (Nat.not_lt_zero u)⟩, fun k hk => ⟨Nat.zero_le _, rfl, rfl, fun hq => absurd hq (show ¬ (0 : Nat) = 1 by decide)⟩, fun k hk => ?_⟩
  · exact ⟨by decide, by decide, by decide, by decide, by decide, by decide, fun f hf => absurd hf (Nat.not_lt_zero f)⟩
  · rw [row_uL, row_uL]
    refine CR_00 rfl (fun j hj => ?_)
    show (if j = 1 then (0 : Int32).toInt64 else if j = 0 then (3 : Int32).toInt64 else 0) = 0
    rw [if_neg hj]
    by_cases h : j = 1
    · rw [if_pos h]; rfl
    · rw [if_neg h]
  · rw [rI_at]
    refine MR_cong Inv_00 (fun k hk => ?_) MR_00
    rw [cpy_at hk]
    show (if k = 2 then (0 : Int32) else 0) = 0
    by_cases h : k = 2
    · rw [if_pos h]
    · rw [if_neg h]
  · exact kyW_L k hk
