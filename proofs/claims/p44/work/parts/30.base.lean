/-! the pure part: what a program comes to -/
def ow {α : Type} (m : Option α) (Q : α → Prop) : Prop := ∃ a, m = some a ∧ Q a
theorem ow_some {α : Type} {a : α} {Q : α → Prop} : ow (some a) Q ↔ Q a := ⟨fun ⟨_, h, q⟩ => by cases h; exact q, fun q => ⟨a, rfl, q⟩⟩
theorem ow_chk {α : Type} {P : Prop} [Decidable P] {k : Option α} {Q : α → Prop} : ow (chk P k) Q ↔ P ∧ ow k Q := by
  unfold chk
  by_cases h : P
  · simp [h]
  · simp [h, ow]
theorem ow_lt {α β : Type} {a : α} {k : α → Option β} {Q : β → Prop} : ow (lt a k) Q ↔ ow (k a) Q := Iff.rfl
theorem ow_bnd1 {α β : Type} {x : Option α} {k : α → Option β} {Q : β → Prop} : ow (bnd1 x k) Q ↔ ow x (fun a => ow (k a) Q) := by
  unfold bnd1
  cases x with
  | none => simp [ow]
  | some a => exact (ow_some (Q := fun a => ow (k a) Q)).symm
theorem ow_bnd2 {α β γ : Type} {x : Option (α × β)} {k : α → β → Option γ} {Q : γ → Prop} : ow (bnd2 x k) Q ↔ ow x (fun a => ow (k a.1 a.2) Q) := by
  unfold bnd2
  cases x with
  | none => simp [ow]
  | some a => exact (ow_some (Q := fun (a : α × β) => ow (k a.1 a.2) Q)).symm
theorem ow_ite {α : Type} {c : Prop} [Decidable c] {a b : Option α} {Q : α → Prop} : ow (if c then a else b) Q ↔ (c → ow a Q) ∧ (¬ c → ow b Q) := by
  by_cases h : c <;> simp [h]
theorem ow_mono {α : Type} {m : Option α} {P Q : α → Prop} (h : ow m P) (hPQ : ∀ a, P a → Q a) : ow m Q := by
  obtain ⟨a, h1, h2⟩ := h
  exact ⟨a, h1, hPQ a h2⟩
theorem ow_of {α : Type} {m : Option α} {a : α} {Q : α → Prop} (h : m = some a) (q : Q a) : ow m Q := ⟨a, h, q⟩
theorem bnd1_some {α β : Type} {a : α} {k : α → Option β} : bnd1 (some a) k = k a := rfl
theorem bnd2_some {α β γ : Type} {a : α} {b : β} {k : α → β → Option γ} : bnd2 (some (a, b)) k = k a b := rfl
theorem chk_pos {α : Type} {P : Prop} [Decidable P] {k : Option α} (h : P) : chk P k = k := if_pos h
theorem lt_eq {α β : Type} {a : α} {k : α → Option β} : lt a k = k a := rfl
/-- a loop: an invariant with a number that falls -/
theorem ow_iter {S X : Type} {body : S → Option (S ⊕ X)} {Q : X → Prop} (I : Nat → S → Prop) (h : ∀ k s, I k s → ow (body s) (fun r => match r with | .inl s' => ∃ k', k' < k ∧ I k' s' | .inr x => Q x)) : ∀ (n k : Nat) (s : S), k < n → I k s → ow (iter body n s) Q := by
  intro n
  induction n with
  | zero => intro k s hk; omega
  | succ n ih =>
    intro k s hk hI
    obtain ⟨r, h1, h2⟩ := h k s hI
    unfold iter
    rw [h1]
    match r, h2 with
    | .inl s', ⟨k', hk', hI'⟩ => exact ih k' s' (by omega) hI'
    | .inr x, h2 => exact ow_some.mpr h2
/-- a counted loop from i0 to N: the state at i is told by the invariant -/
theorem ow_for {S X : Type} {body : S → Option (S ⊕ X)} {Q : X → Prop} (I : Nat → S → Prop) (N : Nat) (hN : N < FU) (h : ∀ i s, i < N → I i s → ow (body s) (fun r => match r with | .inl s' => I (i + 1) s' | .inr x => Q x)) (hx : ∀ s, I N s → ow (body s) (fun r => match r with | .inl _ => False | .inr x => Q x)) (i0 : Nat) (s : S) (h0 : i0 ≤ N) (hI : I i0 s) : ow (iter body FU s) Q := by
  refine ow_iter (fun k s => k ≤ N ∧ I (N - k) s) (fun k s hk => ?_) FU (N - i0) s (by omega) ⟨by omega, by rw [show N - (N - i0) = i0 by omega]; exact hI⟩
  obtain ⟨hk, hI⟩ := hk
  by_cases h0 : k = 0
  · subst h0
    refine ow_mono (hx s hI) (fun r hr => ?_)
    match r, hr with
    | .inl _, hr => exact hr.elim
    | .inr x, hr => exact hr
  · refine ow_mono (h (N - k) s (by omega) hI) (fun r hr => ?_)
    match r, hr with
    | .inl s', hr => exact ⟨k - 1, by omega, by omega, by rw [show N - (k - 1) = N - k + 1 by omega]; exact hr⟩
    | .inr x, hr => exact hr
theorem FU_big {n : Nat} (h : n < 900000) : n < FU := by unfold FU; omega
-- numbers
theorem i_lit (n : Nat) : (@OfNat.ofNat Int32 n Int32.instOfNat) = nI n := rfl
theorem l_lit (n : Nat) : (@OfNat.ofNat Int64 n Int64.instOfNat) = lN n := rfl
theorem ix_nI {n : Nat} (h : n < 2 ^ 31) : ix (nI n) = n := nI_clamp h
theorem ib_nI {n N : Nat} (h : n < 2 ^ 31) : ib (nI n) N ↔ n < N := by
  show ¬ (nI n < 0 ∨ N ≤ (nI n).toNatClampNeg) ↔ n < N
  rw [nI_clamp h]
  have := nI_pos h
  constructor
  · intro q; exact Nat.not_le.mp (fun z => q (Or.inr z))
  · intro q z; rcases z with z | z
    · exact this z
    · omega
theorem nI_ne {a b : Nat} (ha : a < 2 ^ 31) (hb : b < 2 ^ 31) : nI a ≠ nI b ↔ a ≠ b := not_congr (nI_eq ha hb)
-- worlds
theorem gI_rI {σ : Wd} {c : Nat} {f : Nat → Int32} {c' k : Nat} : gI (rI σ c f) c' k = if c' = c then f k else gI σ c' k := by
  unfold gI rI
  by_cases h : c' = c <;> simp [h]
theorem gI_uI {σ : Wd} {c k : Nat} {v : Int32} {c' k' : Nat} : gI (uI σ c k v) c' k' = if c' = c ∧ k' = k then v else gI σ c' k' := by
  unfold uI
  rw [gI_rI]
  by_cases h : c' = c
  · subst h; by_cases h2 : k' = k <;> simp [upd, h2, gI]
  · simp [h]
theorem gL_rL {σ : Wd} {c : Nat} {f : Nat → Int64} {c' k : Nat} : gL (rL σ c f) c' k = if c' = c then f k else gL σ c' k := by
  unfold gL rL
  by_cases h : c' = c <;> simp [h]
theorem gL_uL {σ : Wd} {c k : Nat} {v : Int64} {c' k' : Nat} : gL (uL σ c k v) c' k' = if c' = c ∧ k' = k then v else gL σ c' k' := by
  unfold uL
  rw [gL_rL]
  by_cases h : c' = c
  · subst h; by_cases h2 : k' = k <;> simp [vp_updL, h2, gL]
  · simp [h]
theorem gI_rL {σ : Wd} {c : Nat} {f : Nat → Int64} {c' k : Nat} : gI (rL σ c f) c' k = gI σ c' k := rfl
theorem gI_uL {σ : Wd} {c k : Nat} {v : Int64} {c' k' : Nat} : gI (uL σ c k v) c' k' = gI σ c' k' := rfl
theorem gL_rI {σ : Wd} {c : Nat} {f : Nat → Int32} {c' k : Nat} : gL (rI σ c f) c' k = gL σ c' k := rfl
theorem gL_uI {σ : Wd} {c k : Nat} {v : Int32} {c' k' : Nat} : gL (uI σ c k v) c' k' = gL σ c' k' := rfl
theorem gR_uI {σ : Wd} {c k : Nat} {v : Int32} {c' k' : Nat} : gR (uI σ c k v) c' k' = gR σ c' k' := rfl
theorem gR_uL {σ : Wd} {c k : Nat} {v : Int64} {c' k' : Nat} : gR (uL σ c k v) c' k' = gR σ c' k' := rfl
theorem gR_rI {σ : Wd} {c : Nat} {f : Nat → Int32} {c' k : Nat} : gR (rI σ c f) c' k = gR σ c' k := rfl
theorem gR_rL {σ : Wd} {c : Nat} {f : Nat → Int64} {c' k : Nat} : gR (rL σ c f) c' k = gR σ c' k := rfl
theorem gI_uR {σ : Wd} {c k v c' k' : Nat} : gI (uR σ c k v) c' k' = gI σ c' k' := rfl
theorem gL_uR {σ : Wd} {c k v c' k' : Nat} : gL (uR σ c k v) c' k' = gL σ c' k' := rfl
theorem gR_uR {σ : Wd} {c k v c' k' : Nat} : gR (uR σ c k v) c' k' = if c' = c ∧ k' = k then v else gR σ c' k' := by
  unfold uR rR gR
  by_cases h : c' = c
  · subst h; by_cases h2 : k' = k <;> simp [va_up, h2]
  · simp [h]
-- the model's first methods
theorem m_ofWrite {τ : Wd} {w k : Nat} (hw : w < 60) (hk : k < 5) : M_X9_ofWrite τ (nI w) (nI k) = some (gI τ 26 (110 + 5 * w + k)) := by
  unfold M_X9_ofWrite
  simp (disch := omega) only [i_lit, pk_mul, nI_add, ib_nI, ix_nI]
  rw [chk_pos (by omega)]
theorem m_ofCopy {τ : Wd} {c k : Nat} (hc : c < 5) (hk : k < 6) : M_X9_ofCopy τ (nI c) (nI k) = some (gI τ 26 (15 + 6 * c + k)) := by
  unfold M_X9_ofCopy
  simp (disch := omega) only [i_lit, pk_mul, nI_add, ib_nI, ix_nI]
  rw [chk_pos (by omega)]
