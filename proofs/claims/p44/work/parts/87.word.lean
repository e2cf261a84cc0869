/-! reading: bytes, words -/
def sb (u : Nat) : Int32 := (nI u).toInt8.toInt32
def isLn (u : Nat) : Bool := decide (97 ≤ u) && decide (u ≤ 122)
def isDn (u : Nat) : Bool := decide (48 ≤ u) && decide (u ≤ 57)
def isBn (u : Nat) : Bool := decide (u = 9) || (decide (u = 10) || (decide (u = 13) || decide (u = 32)))
def sgk (u : Nat) : Nat := if u = 59 then 4 else if u = 61 then 5 else if u = 40 then 6 else if u = 41 then 7 else if u = 43 then 8 else if u = 45 then 9 else if u = 42 then 10 else if u = 47 then 15 else if u = 60 then 13 else 3
/-- the class's kind of a token of the model's kind k -/
def ck (k : Nat) : Nat := if k = 1 then 2 else if k = 2 then 3 else if k = 3 then 1 else if k = 4 then 59 else if k = 5 then 61 else if k = 6 then 40 else if k = 7 then 41 else if k = 8 then 43 else if k = 9 then 45 else if k = 10 then 42 else if k = 13 then 60 else if k = 15 then 47 else if k = 0 then 0 else 80 + k
theorem sb_all (b : Int32) (h : b.toInt8.toInt32 = b) : ∃ u, u < 256 ∧ b = sb u ∧ b &&& 255 = nI u := by
  have t : ∀ u : Fin 256, sb u.val &&& 255 = nI u.val := by decide +kernel
  have t2 : ∀ u : Fin 256, (Int8.ofNat u.val).toInt32 = sb u.val := by decide +kernel
  have e0 : b.toInt8 = Int8.ofNat b.toInt8.toBitVec.toNat := by
    apply Int8.toBitVec_inj.mp
    apply BitVec.eq_of_toNat_eq
    show b.toInt8.toBitVec.toNat = b.toInt8.toBitVec.toNat % 2 ^ 8
    exact (Nat.mod_eq_of_lt b.toInt8.toBitVec.isLt).symm
  have e : b = sb b.toInt8.toBitVec.toNat := by
    rw [← t2 ⟨b.toInt8.toBitVec.toNat, b.toInt8.toBitVec.isLt⟩]
    show b = (Int8.ofNat b.toInt8.toBitVec.toNat).toInt32
    rw [← e0, h]
  have h1 : b.toInt8.toBitVec.toNat < 256 := b.toInt8.toBitVec.isLt
  exact ⟨_, h1, e, by rw [show b &&& 255 = sb b.toInt8.toBitVec.toNat &&& 255 from congrArg (· &&& 255) e]; exact t ⟨_, h1⟩⟩
theorem tb_cL : ∀ u : Fin 256, M_X6_isLetter (sb u.val) = some (boI (isLn u.val)) ∧ M_X6_isDigit (sb u.val) = some (boI (isDn u.val)) ∧ M_X9_isLetter (nI u.val) = some (boI (isLn u.val)) ∧ M_X9_isDigit (nI u.val) = some (boI (isDn u.val)) := by decide +kernel
theorem tb_b : ∀ u : Fin 256, (sb u.val = 9 ↔ u.val = 9) ∧ (sb u.val = 10 ↔ u.val = 10) ∧ (sb u.val = 13 ↔ u.val = 13) ∧ (sb u.val = 32 ↔ u.val = 32) ∧ (nI u.val = 9 ↔ u.val = 9) ∧ (nI u.val = 10 ↔ u.val = 10) ∧ (nI u.val = 13 ↔ u.val = 13) ∧ (nI u.val = 32 ↔ u.val = 32) := by decide +kernel
theorem tb_s : ∀ u : Fin 256, sgk u.val ≠ 3 → sb u.val = nI (ck (sgk u.val)) := by decide +kernel
theorem tb_p : ∀ u : Fin 256, isLn u.val = true ∨ isDn u.val = true → sb u.val = nI u.val := by decide +kernel
theorem j_len (σ : Wd) : M_J0_length_8abf5 σ = some 9 := by
  unfold M_J0_length_8abf5 M_J0_coder_7d493
  rw [if_neg n10, show ∀ k : Option Int32, chk (narrow .byte (.int (0 : Int32)) = .int (0 : Int32)) k = k from fun k => chk_pos rfl, bnd1_some]
  rfl
theorem tb_i (σ : Wd) : ∀ u : Fin 256, M_J1_indexOf_4cfef σ (((sb u.val &&& (255 : Int32)).toUInt32 % 65536).toInt32) 0 9 = some (if sgk u.val = 3 then -1 else nI ([4, 5, 8, 9, 10, 15, 13, 6, 7].idxOf (sgk u.val))) := by
  have e : ∀ v, M_J1_indexOf_4cfef σ v 0 9 = M_J1_indexOf_4cfef sg8 v 0 9 := fun v => rfl
  intro u
  rw [e]
  revert u
  decide +kernel
theorem j_idx (σ : Wd) {u : Nat} (hu : u < 256) : ∃ r, M_J0_indexOf_0f7a4 σ (((sb u &&& (255 : Int32)).toUInt32 % 65536).toInt32) = some r ∧ (r < 0 ↔ sgk u = 3) := by
  unfold M_J0_indexOf_0f7a4 M_J0_indexOf_7cf53
  rw [show M_J0_isLatin1_aae02 σ = some 1 from rfl, bnd1_some, if_neg n10, j_len, bnd1_some, tb_i σ ⟨u, hu⟩, bnd1_some, bnd1_some]
  refine ⟨_, rfl, ?_⟩
  have t : ∀ u : Fin 256, (if sgk u.val = 3 then (-1 : Int32) else nI ([4, 5, 8, 9, 10, 15, 13, 6, 7].idxOf (sgk u.val))) < 0 ↔ sgk u.val = 3 := by decide +kernel
  exact t ⟨u, hu⟩
/-- the class's word of the model's -/
def cv : Nat → Nat → Nat
  | 0, _ => 0
  | k + 1, m => if m = 0 then 0 else 256 * cv k ((m - 1) / 27) + 97 + (m - 1) % 27
theorem cv_inj : ∀ k m m', m < 27 ^ k → m' < 27 ^ k → cv k m = cv k m' → m = m' := by
  intro k
  induction k with
  | zero => intro m m' h h' _; rw [Nat.pow_zero] at h h'; omega
  | succ k ih =>
    intro m m' h h' e
    rw [Nat.pow_succ] at h h'
    by_cases h0 : m = 0
    · by_cases h1 : m' = 0
      · omega
      · rw [cv, cv, if_pos h0, if_neg h1] at e; omega
    · by_cases h1 : m' = 0
      · rw [cv, cv, if_neg h0, if_pos h1] at e; omega
      · rw [cv, cv, if_neg h0, if_neg h1] at e
        have r1 := Nat.mod_lt (m - 1) (show 0 < 27 by decide)
        have r2 := Nat.mod_lt (m' - 1) (show 0 < 27 by decide)
        have := ih ((m - 1) / 27) ((m' - 1) / 27) (by omega) (by omega) (by omega)
        omega
theorem cv_lt : ∀ k m, cv k m < 256 ^ k := by
  intro k
  induction k with
  | zero => intro m; exact Nat.one_pos
  | succ k ih =>
    intro m
    have := ih ((m - 1) / 27)
    rw [cv, Nat.pow_succ]
    by_cases h0 : m = 0
    · rw [if_pos h0]; omega
    · rw [if_neg h0]
      have r1 := Nat.mod_lt (m - 1) (show 0 < 27 by decide)
      omega
theorem cv_up : ∀ k m, m < 27 ^ k → cv (k + 1) m = cv k m := by
  intro k
  induction k with
  | zero => intro m h; rw [Nat.pow_zero] at h; rw [show m = 0 by omega]; rfl
  | succ k ih =>
    intro m h
    rw [Nat.pow_succ] at h
    rw [show cv (k + 1 + 1) m = if m = 0 then 0 else 256 * cv (k + 1) ((m - 1) / 27) + 97 + (m - 1) % 27 from rfl, show cv (k + 1) m = if m = 0 then 0 else 256 * cv k ((m - 1) / 27) + 97 + (m - 1) % 27 from rfl]
    by_cases h0 : m = 0
    · rw [if_pos h0, if_pos h0]
    · rw [if_neg h0, if_neg h0, ih _ (by omega)]
theorem cv_8 : ∀ j k m, m < 27 ^ k → k ≤ j → cv j m = cv k m := by
  intro j
  induction j with
  | zero => intro k m h hk; rw [show k = 0 by omega]
  | succ j ih =>
    intro k m h hk
    by_cases e : k = j + 1
    · rw [e]
    · have hkj : k ≤ j := by omega
      rw [cv_up j m (Nat.lt_of_lt_of_le h (Nat.pow_le_pow_right (by decide) hkj)), ih k m h hkj]
theorem cv_s {k m d : Nat} (h1 : 1 ≤ d) (h2 : d ≤ 26) : cv (k + 1) (27 * m + d) = 256 * cv k m + 96 + d := by
  rw [cv, if_neg (by omega), show (27 * m + d - 1) / 27 = m by omega]
  omega
theorem ky_cv : ∀ k : Fin 11, wdF k.val = lN (cv 8 ((keyv k.val).toBitVec.toNat)) ∧ (keyv k.val).toBitVec.toNat < 27 ^ 8 ∧ ∀ j : Fin 11, keyv j.val = keyv k.val → j = k := by decide +kernel
