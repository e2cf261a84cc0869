/-! what is asked of a world, of numbers in their bounds and out of them -/
theorem bd_cases (v : Int32) {n : Nat} (hn : n < 2 ^ 31) : (∃ j, j < n ∧ v = nI j) ∨ (v < 0 ∨ nI n ≤ v) := by
  rcases pk_ix v hn with h | h | h
  · exact Or.inr (Or.inl h)
  · exact Or.inr (Or.inr h)
  · exact Or.inl h
theorem nI_n0 {c : Nat} (h : c < 2 ^ 31) : ¬ nI c < 0 := nI_pos h
theorem nI_sub1 {n : Nat} (h : n < 2 ^ 30) : (nI n - 1).toInt = (n : Int) - 1 := by
  rw [show (1 : Int32) = nI 1 from rfl, pk_sub_toInt h (by decide)]
  rfl
theorem m_in_t {c n : Nat} (h : c < n) (hn : n < 2 ^ 30) : M_X9_in (nI c) 0 (nI n - 1) = some 1 := by
  unfold M_X9_in
  have h1 : ¬ nI n - 1 < nI c := by
    rw [Int32.lt_iff_toInt_lt, nI_sub1 hn, nI_toInt (by omega)]
    omega
  rw [if_neg (nI_n0 (by omega)), if_neg h1]
theorem m_in_f {v : Int32} {n : Nat} (h : v < 0 ∨ nI n ≤ v) (hn : n < 2 ^ 30) : M_X9_in v 0 (nI n - 1) = some 0 := by
  unfold M_X9_in
  by_cases h0 : v < 0
  · rw [if_pos h0]
  · have h2 : nI n ≤ v := by rcases h with h | h; exact absurd h h0; exact h
    have h1 : nI n - 1 < v := by
      rw [Int32.lt_iff_toInt_lt, nI_sub1 hn]
      rw [Int32.le_iff_toInt_le, nI_toInt (by omega)] at h2
      omega
    rw [if_neg h0, if_pos h1]
theorem nI_pred1 {n : Nat} (h : 0 < n) : nI n - 1 = nI (n - 1) := by
  rw [show (1 : Int32) = nI 1 from rfl, pk_sub h]
theorem m_inl_t {c m : Nat} (h : c ≤ m) (hm : m < 2 ^ 29) : M_X9_in (nI c) 0 (nI m) = some 1 := by
  have := m_in_t (c := c) (n := m + 1) (by omega) (by omega)
  rwa [nI_pred1 (by omega), Nat.add_sub_cancel] at this
theorem m_inl_f {v : Int32} {m : Nat} (h : v < 0 ∨ nI (m + 1) ≤ v) (hm : m < 2 ^ 29) : M_X9_in v 0 (nI m) = some 0 := by
  have := m_in_f (v := v) (n := m + 1) h (by omega)
  rwa [nI_pred1 (by omega), Nat.add_sub_cancel] at this
theorem zb0 : zb (0 : Int32) := Or.inl rfl
theorem zb1 : zb (1 : Int32) := Or.inr rfl
section GM
variable {τ : Wd} {l n : Nat}
theorem m_isCopy_t {c : Nat} (hl : l < 2) (h18 : gI τ 0 18 = nI l) (h10 : gI τ 10 l = nI n) (hn : n < 2 ^ 30) (h : c < n) : M_X9_isCopy τ (nI c) = some 1 := by
  unfold M_X9_isCopy
  rw [h18, chk_pos ((ib_nI (by omega)).mpr hl), ix_nI (by omega), h10, m_in_t h hn]
  rfl
theorem m_isCopy_f {v : Int32} (hl : l < 2) (h18 : gI τ 0 18 = nI l) (h10 : gI τ 10 l = nI n) (hn : n < 2 ^ 30) (h : v < 0 ∨ nI n ≤ v) : M_X9_isCopy τ v = some 0 := by
  unfold M_X9_isCopy
  rw [h18, chk_pos ((ib_nI (by omega)).mpr hl), ix_nI (by omega), h10, m_in_f h hn]
  rfl
theorem m_isCell_t {c : Nat} (hl : l < 2) (h18 : gI τ 0 18 = nI l) (h10 : gI τ 12 l = nI n) (hn : n < 2 ^ 30) (h : c < n) : M_X9_isCell τ (nI c) = some 1 := by
  unfold M_X9_isCell
  rw [h18, chk_pos ((ib_nI (by omega)).mpr hl), ix_nI (by omega), h10, m_in_t h hn]
  rfl
theorem m_isCell_f {v : Int32} (hl : l < 2) (h18 : gI τ 0 18 = nI l) (h10 : gI τ 12 l = nI n) (hn : n < 2 ^ 30) (h : v < 0 ∨ nI n ≤ v) : M_X9_isCell τ v = some 0 := by
  unfold M_X9_isCell
  rw [h18, chk_pos ((ib_nI (by omega)).mpr hl), ix_nI (by omega), h10, m_in_f h hn]
  rfl
theorem m_isWrite_t {c : Nat} (h0 : gI τ 25 0 = nI n) (hn : n < 2 ^ 30) (h : c < n) : M_X9_isWrite τ (nI c) = some 1 := by
  unfold M_X9_isWrite
  rw [chk_pos (by decide), show ix (0 : Int32) = 0 from rfl, h0, m_in_t h hn]
  rfl
theorem m_isWrite_f {v : Int32} (h0 : gI τ 25 0 = nI n) (hn : n < 2 ^ 30) (h : v < 0 ∨ nI n ≤ v) : M_X9_isWrite τ v = some 0 := by
  unfold M_X9_isWrite
  rw [chk_pos (by decide), show ix (0 : Int32) = 0 from rfl, h0, m_in_f h hn]
  rfl
theorem m_isSession_t {c : Nat} (h : c < 4) : M_X9_isSession (nI c) = some 1 := by
  unfold M_X9_isSession
  rw [show (3 : Int32) = nI 3 from rfl, m_inl_t (by omega) (by decide)]
  rfl
theorem m_isSession_f {v : Int32} (h : v < 0 ∨ nI 4 ≤ v) : M_X9_isSession v = some 0 := by
  unfold M_X9_isSession
  rw [show (3 : Int32) = nI 3 from rfl, m_inl_f h (by decide)]
  rfl
end GM
section GC
variable {σ : Wd} {t n : Nat}
theorem c_in_t {c n : Nat} (h : c < n) (hn : n < 2 ^ 30) : ¬ nI c < 0 ∧ ¬ nI n ≤ nI c := ⟨nI_n0 (by omega), by rw [nI_leI (by omega) (by omega)]; omega⟩
theorem c_isCopy_t {c : Nat} (ht : famT t) (h4 : gR σ 0 4 = t) (h0 : gI σ t 0 = nI n) (hn : n < 2 ^ 30) (h : c < n) : M_X8_isCopy σ (nI c) = some 1 := by
  obtain ⟨h1, h2⟩ := c_in_t h hn
  unfold M_X8_isCopy
  rw [h4, if_neg h1, chk_pos ht, h0, if_neg h2]
theorem c_isCopy_f {v : Int32} (ht : famT t) (h4 : gR σ 0 4 = t) (h0 : gI σ t 0 = nI n) (h : v < 0 ∨ nI n ≤ v) : M_X8_isCopy σ v = some 0 := by
  unfold M_X8_isCopy
  by_cases h1 : v < 0
  · rw [if_pos h1]
  · rw [h4, if_neg h1, chk_pos ht, h0, if_pos (by rcases h with h | h; exact absurd h h1; exact h)]
theorem c_isCell_t {c : Nat} (ht : famT t) (h4 : gR σ 0 4 = t) (h0 : gI σ t 3 = nI n) (hn : n < 2 ^ 30) (h : c < n) : M_X8_isCell σ (nI c) = some 1 := by
  obtain ⟨h1, h2⟩ := c_in_t h hn
  unfold M_X8_isCell
  rw [h4, if_neg h1, chk_pos ht, h0, if_neg h2]
theorem c_isCell_f {v : Int32} (ht : famT t) (h4 : gR σ 0 4 = t) (h0 : gI σ t 3 = nI n) (h : v < 0 ∨ nI n ≤ v) : M_X8_isCell σ v = some 0 := by
  unfold M_X8_isCell
  by_cases h1 : v < 0
  · rw [if_pos h1]
  · rw [h4, if_neg h1, chk_pos ht, h0, if_pos (by rcases h with h | h; exact absurd h h1; exact h)]
theorem c_isSession_t {c : Nat} (h : c < 4) : M_X8_isSession (nI c) = some 1 := by
  obtain ⟨h1, h2⟩ := c_in_t h (by decide)
  unfold M_X8_isSession
  rw [if_neg h1, show (4 : Int32) = nI 4 from rfl, if_neg h2]
theorem c_isSession_f {v : Int32} (h : v < 0 ∨ nI 4 ≤ v) : M_X8_isSession v = some 0 := by
  unfold M_X8_isSession
  by_cases h1 : v < 0
  · rw [if_pos h1]
  · rw [if_neg h1, show (4 : Int32) = nI 4 from rfl, if_pos (by rcases h with h | h; exact absurd h h1; exact h)]
theorem c_isSlot_t {c : Nat} (h : c < 3) : M_X8_isSlot (nI c) = some 1 := by
  obtain ⟨h1, h2⟩ := c_in_t h (by decide)
  unfold M_X8_isSlot
  rw [if_neg h1, show (3 : Int32) = nI 3 from rfl, if_neg h2]
theorem c_isSlot_f {v : Int32} (h : v < 0 ∨ nI 3 ≤ v) : M_X8_isSlot v = some 0 := by
  unfold M_X8_isSlot
  by_cases h1 : v < 0
  · rw [if_pos h1]
  · rw [if_neg h1, show (3 : Int32) = nI 3 from rfl, if_pos (by rcases h with h | h; exact absurd h h1; exact h)]
theorem c_row {k : Nat} : gL σ 29 k = σ.2.1 29 k := rfl
theorem lN32 {x : Int64} {n : Nat} (h : x = lN n) : x.toInt32 = nI n := by rw [h, lN_i]
theorem c_copies (h : gL σ 29 0 = lN n) : M_X1_copies σ = some (nI n) := by
  unfold M_X1_copies
  rw [chk_pos (by decide), show ix (0 : Int32) = 0 from rfl, lN32 h]
theorem c_primary (h : gL σ 29 1 = lN n) : M_X1_primary σ = some (nI n) := by
  unfold M_X1_primary
  rw [chk_pos (by decide), show ix (1 : Int32) = 1 from rfl, lN32 h]
theorem c_writes (h : gL σ 29 2 = lN n) : M_X1_writes σ = some (nI n) := by
  unfold M_X1_writes
  rw [chk_pos (by decide), show ix (2 : Int32) = 2 from rfl, lN32 h]
theorem c_ordered (h : gL σ 29 3 = lN n) : M_X1_ordered σ = some (nI n) := by
  unfold M_X1_ordered
  rw [chk_pos (by decide), show ix (3 : Int32) = 3 from rfl, lN32 h]
theorem c_chances (h : gL σ 29 4 = lN n) : M_X1_chances σ = some (nI n) := by
  unfold M_X1_chances
  rw [chk_pos (by decide), show ix (4 : Int32) = 4 from rfl, lN32 h]
theorem c_number {a b : Nat} (h : a + b < 96) : M_X1_copyNumber σ (nI a) (nI b) = some ((gL σ 29 (a + b)).toInt32) := by
  unfold M_X1_copyNumber
  rw [nI_add, chk_pos ((ib_nI (by omega)).mpr h), ix_nI (by omega)]
theorem c_snumber {a b : Nat} (h : a + b < 96) : M_X1_sessionNumber σ (nI a) (nI b) = some ((gL σ 29 (a + b)).toInt32) := by
  unfold M_X1_sessionNumber
  rw [nI_add, chk_pos ((ib_nI (by omega)).mpr h), ix_nI (by omega)]
theorem c_svector {a s o : Nat} (h : a + s * 5 + o < 96) : M_X1_sessionVector σ (nI a) (nI s) (nI o) = some ((gL σ 29 (a + s * 5 + o)).toInt32) := by
  unfold M_X1_sessionVector
  rw [show (5 : Int32) = nI 5 from rfl, pk_mul, nI_add, nI_add, chk_pos ((ib_nI (by omega)).mpr h), ix_nI (by omega)]
theorem c_setOf {c : Nat} (h : c < 5) : M_X1_setOf σ (nI c) = some (gL σ 29 (6 + c)) := by
  unfold M_X1_setOf
  rw [show (6 : Int32) = nI 6 from rfl, nI_add, chk_pos ((ib_nI (by omega)).mpr (by omega)), ix_nI (by omega)]
theorem c_knownOf {c k : Nat} (h : c < 5) (hk : gL σ 29 (11 + c) = lN k) : M_X1_knownOf σ (nI c) = some (nI k) := by
  unfold M_X1_knownOf
  rw [show (11 : Int32) = nI 11 from rfl, nI_add, chk_pos ((ib_nI (by omega)).mpr (by omega)), ix_nI (by omega), lN32 hk]
theorem c_isWrite_t {c : Nat} (h2 : gL σ 29 2 = lN n) (hn : n < 2 ^ 30) (h : c < n) : M_X8_isWrite σ (nI c) = some 1 := by
  obtain ⟨h1, h3⟩ := c_in_t h hn
  unfold M_X8_isWrite
  rw [if_neg h1, c_writes h2, bnd1_some, if_neg h3]
theorem c_isWrite_f {v : Int32} (h2 : gL σ 29 2 = lN n) (h : v < 0 ∨ nI n ≤ v) : M_X8_isWrite σ v = some 0 := by
  unfold M_X8_isWrite
  by_cases h1 : v < 0
  · rw [if_pos h1]
  · rw [if_neg h1, c_writes h2, bnd1_some, if_pos (by rcases h with h | h; exact absurd h h1; exact h)]
end GC
/-- the parts of the relation that the asking needs -/
theorem Rel.T {σ τ : Wd} (h : Rel σ τ) : ∃ (T : Td) (t l : Nat) (g : Gs), (famT t ∧ gR σ 0 4 = t ∧ l < 2 ∧ gI τ 0 18 = nI l ∧ TInv T ∧ TC T t σ ∧ TM T l τ) ∧ CR (tN T) g (σ.2.1 29) ∧ CA g 28 σ ∧ MR g (τ.1 25) ∧ Inv (tN T) (tF T) g := by
  obtain ⟨T, t, l, tp, un, nx, g, hs, sl, hl, h1, h2, ⟨h3, h4, h5, h6, h7, h8, h9, h10⟩, ⟨h11, h12, h13, h14⟩, h15⟩ := h
  exact ⟨T, t, l, g, ⟨h3, h4, h6, h7, h8, h9, h10⟩, h11, h12, h13, h14⟩
