/-! the class cuts -/
def rnF (P : Nat → Bool) : Nat → Nat → Nat
  | 0, p => p
  | d + 1, p => if P p = true then rnF P d (p + 1) else p
def rn (P : Nat → Bool) (e p : Nat) : Nat := rnF P (e - p) p
theorem rn_go {P : Nat → Bool} {e p : Nat} (h : p < e) (hp : P p = true) : rn P e p = rn P e (p + 1) := by
  unfold rn
  rw [show e - p = (e - (p + 1)) + 1 by omega]
  show (if P p = true then rnF P (e - (p + 1)) (p + 1) else p) = _
  rw [if_pos hp]
theorem rn_st {P : Nat → Bool} {e p : Nat} (h : ¬ (p < e ∧ P p = true)) : rn P e p = p := by
  unfold rn
  by_cases h0 : p < e
  · rw [show e - p = (e - (p + 1)) + 1 by omega]
    show (if P p = true then rnF P (e - (p + 1)) (p + 1) else p) = _
    rw [if_neg (fun z => h ⟨h0, z⟩)]
  · rw [show e - p = 0 by omega]
    rfl
theorem rn_bd {P : Nat → Bool} {e : Nat} : ∀ d p, d = e - p → p ≤ e → p ≤ rn P e p ∧ rn P e p ≤ e ∧ (∀ i, p ≤ i → i < rn P e p → P i = true) ∧ ¬ (rn P e p < e ∧ P (rn P e p) = true) := by
  intro d
  induction d with
  | zero =>
    intro p hd hp
    have h : ¬ (p < e ∧ P p = true) := fun z => by omega
    rw [rn_st h]
    exact ⟨by omega, by omega, fun i h1 h2 => by omega, h⟩
  | succ d ih =>
    intro p hd hp
    by_cases h : p < e ∧ P p = true
    · rw [rn_go h.1 h.2]
      obtain ⟨a, b, c, f⟩ := ih (p + 1) (by omega) (by omega)
      exact ⟨by omega, b, fun i h1 h2 => by
        by_cases e0 : i = p
        · rw [e0]; exact h.2
        · exact c i (by omega) h2, f⟩
    · rw [rn_st h]
      exact ⟨by omega, by omega, fun i h1 h2 => by omega, h⟩
theorem rn_loop {S X : Type} {body : S → Option (S ⊕ X)} {st : Nat → S} {fin : Nat → X} {P : Nat → Bool} {e p0 : Nat} (h : ∀ p, p0 ≤ p → p ≤ e → body (st p) = if p < e ∧ P p = true then some (.inl (st (p + 1))) else some (.inr (fin p))) : ∀ d p n, p0 ≤ p → p ≤ e → d = e - p → d < n → iter body n (st p) = some (fin (rn P e p)) := by
  intro d
  induction d with
  | zero =>
    intro p n h0 hp hd hn
    have hs : ¬ (p < e ∧ P p = true) := fun z => by omega
    obtain ⟨n', rfl⟩ : ∃ n', n = n' + 1 := ⟨n - 1, by omega⟩
    rw [rn_st hs]
    exact it_x ((h p h0 hp).trans (if_neg hs))
  | succ d ih =>
    intro p n h0 hp hd hn
    obtain ⟨n', rfl⟩ : ∃ n', n = n' + 1 := ⟨n - 1, by omega⟩
    by_cases hs : p < e ∧ P p = true
    · rw [rn_go hs.1 hs.2]
      exact (it_s ((h p h0 hp).trans (if_pos hs))).trans (ih (p + 1) n' (by omega) (by omega) (by omega) (by omega))
    · rw [rn_st hs]
      exact it_x ((h p h0 hp).trans (if_neg hs))
def ByC (u : Nat → Nat) (e : Nat) (σ : Wd) : Prop := e ≤ 2000 ∧ ∀ i, i < e → u i < 256 ∧ gI σ 1 i = sb (u i)
section CT
variable {u : Nat → Nat} {e k p : Nat} {σ : Wd}
theorem ByC_uI (h : ByC u e σ) {c j : Nat} {v : Int32} (hc : c ≠ 1) : ByC u e (uI σ c j v) := ⟨h.1, fun i hi => ⟨(h.2 i hi).1, by rw [gI_uI, if_neg (fun z => hc z.1.symm)]; exact (h.2 i hi).2⟩⟩
theorem g65 {v : Int32} : gI (uI σ 6 5 v) 6 5 = v := by rw [gI_uI, if_pos ⟨rfl, rfl⟩]
theorem c_skip (hB : ByC u e σ) (h5 : gI σ 6 5 = nI p) (hp : p ≤ e) : M_X6_skipBlanks σ (nI e) = some (uI σ 6 5 (nI (rn (fun i => isBn (u i)) e p))) := by
  have he := hB.1
  have L := rn_loop (body := fun s : Wd => M_X6_skipBlanks_L0 (nI e) s) (st := fun p => uI σ 6 5 (nI p)) (fin := fun p => uI σ 6 5 (nI p)) (P := fun i => isBn (u i)) (e := e) (p0 := p) (fun q hq hqe => by
    show M_X6_skipBlanks_L0 (nI e) (uI σ 6 5 (nI q)) = _
    unfold M_X6_skipBlanks_L0 M_X6_skipBlanks_J52
    rw [g65]
    by_cases h0 : q < e
    · obtain ⟨b1, b2⟩ := (ByC_uI hB (c := 6) (j := 5) (v := nI q) (by decide)).2 q h0
      obtain ⟨t1, t2, t3, t4, _⟩ := tb_b ⟨u q, b1⟩
      have t1 : sb (u q) = 9 ↔ u q = 9 := t1
      have t2 : sb (u q) = 10 ↔ u q = 10 := t2
      have t3 : sb (u q) = 13 ↔ u q = 13 := t3
      have t4 : sb (u q) = 32 ↔ u q = 32 := t4
      have ci : ib (nI q) 2000 := (ib_nI (by omega)).mpr (by omega)
      rw [if_neg (fun z => by have := (nI_leI (by omega) (by omega)).mp z; omega), chk_pos ci, chk_pos ci, chk_pos ci, chk_pos ci, ix_nI (by omega), b2, uI_uI, nI_1]
      simp only [lt_eq]
      show _ = if q < e ∧ isBn (u q) = true then _ else _
      unfold isBn
      by_cases a1 : u q = 9
      · rw [if_pos (t1.mpr a1), if_pos ⟨h0, by rw [decide_eq_true a1]; rfl⟩]
      · rw [if_neg (fun z => a1 (t1.mp z))]
        by_cases a2 : u q = 10
        · rw [if_pos (t2.mpr a2), if_pos ⟨h0, by rw [decide_eq_true a2, Bool.true_or, Bool.or_true]⟩]
        · rw [if_neg (fun z => a2 (t2.mp z))]
          by_cases a3 : u q = 13
          · rw [if_pos (t3.mpr a3), if_pos ⟨h0, by rw [decide_eq_true a3, Bool.true_or, Bool.or_true, Bool.or_true]⟩]
          · rw [if_neg (fun z => a3 (t3.mp z))]
            by_cases a4 : u q = 32
            · rw [if_neg (fun z => z (t4.mpr a4)), if_pos ⟨h0, by rw [decide_eq_true a4, Bool.or_true, Bool.or_true, Bool.or_true]⟩]
            · rw [if_pos (fun z => a4 (t4.mp z)), if_neg (fun z => by have z := z.2; rw [decide_eq_false a1, decide_eq_false a2, decide_eq_false a3, decide_eq_false a4] at z; exact Bool.noConfusion z)]
    · rw [if_pos ((nI_leI (by omega) (by omega)).mpr (by omega)), if_neg (fun z => h0 z.1)]) (e - p) p FU (Nat.le_refl _) hp rfl (FU_big (by omega))
  unfold M_X6_skipBlanks
  have e0 : uI σ 6 5 (nI p) = σ := by rw [← h5]; exact uI_self
  rw [← e0, show iter (fun s : Wd => M_X6_skipBlanks_L0 (nI e) s) FU (uI σ 6 5 (nI p)) = _ from L, bnd1_some, e0]
  rfl
/-- the words and the numbers, as they grow -/
def cW (u : Nat → Nat) (p : Nat) : Nat → Int64
  | 0 => 0
  | j + 1 => (cW u p j <<< ((8 : Int32).toInt64 &&& 63)) ||| (sb (u (p + j))).toInt64
def wM (u : Nat → Nat) (p : Nat) : Nat → Nat
  | 0 => 0
  | j + 1 => 27 * wM u p j + (u (p + j) - 96)
def cD (u : Nat → Nat) (p : Nat) : Nat → Int32
  | 0 => 0
  | j + 1 => ((cD u p j * (10 : Int32)) + sb (u (p + j))) - (48 : Int32)
def dM (u : Nat → Nat) (p : Nat) : Nat → Nat
  | 0 => 0
  | j + 1 => 10 * dM u p j + (u (p + j) - 48)
theorem isLn_bd {n : Nat} : isLn n = true ↔ 97 ≤ n ∧ n ≤ 122 := by
  unfold isLn
  rw [Bool.and_eq_true, decide_eq_true_iff, decide_eq_true_iff]
theorem isDn_bd {n : Nat} : isDn n = true ↔ 48 ≤ n ∧ n ≤ 57 := by
  unfold isDn
  rw [Bool.and_eq_true, decide_eq_true_iff, decide_eq_true_iff]
theorem shl8 {c b : Nat} (hc : c < 2 ^ 56) (hb : b < 256) : (lN c <<< ((8 : Int32).toInt64 &&& 63)) ||| (nI b).toInt64 = lN (256 * c + b) := by
  rw [lN_I (by omega)]
  apply Int64.toBitVec_inj.mp
  apply BitVec.eq_of_toNat_eq
  rw [Int64.toBitVec_or, BitVec.toNat_or, Int64.toBitVec_shiftLeft]
  have e1 : ((lN c).toBitVec <<< (((8 : Int32).toInt64 &&& 63).toBitVec.smod 64)).toNat = 256 * c := by
    show ((lN c).toBitVec <<< (8 : Nat)).toNat = _
    rw [BitVec.toNat_shiftLeft]
    show (c % 2 ^ 64) <<< 8 % 2 ^ 64 = 256 * c
    rw [Nat.shiftLeft_eq]
    omega
  rw [e1]
  show 256 * c ||| b % 2 ^ 64 = (256 * c + b) % 2 ^ 64
  rw [Nat.mod_eq_of_lt (show b < 2 ^ 64 by omega), Nat.mod_eq_of_lt (show 256 * c + b < 2 ^ 64 by omega), show 256 * c = c <<< 8 by rw [Nat.shiftLeft_eq]; omega]
  exact (Nat.shiftLeft_add_eq_or_of_lt (show b < 2 ^ 8 by omega) c).symm
theorem wM_lt : ∀ j, (∀ i, i < j → isLn (u (p + i)) = true) → wM u p j < 27 ^ j := by
  intro j
  induction j with
  | zero => intro _; exact Nat.one_pos
  | succ j ih =>
    intro h
    have := ih (fun i hi => h i (by omega))
    have := isLn_bd.mp (h j (by omega))
    show 27 * wM u p j + (u (p + j) - 96) < 27 ^ (j + 1)
    rw [Nat.pow_succ]
    omega
theorem cW_wM : ∀ j, j ≤ 8 → (∀ i, i < j → isLn (u (p + i)) = true) → cW u p j = lN (cv j (wM u p j)) := by
  intro j
  induction j with
  | zero => intro _ _; rfl
  | succ j ih =>
    intro hj h
    have h1 := isLn_bd.mp (h j (by omega))
    have h2 : sb (u (p + j)) = nI (u (p + j)) := tb_p ⟨u (p + j), by omega⟩ (Or.inl (h j (by omega)))
    have h3 := cv_lt j (wM u p j)
    have h4 : (256 : Nat) ^ j ≤ 256 ^ 7 := Nat.pow_le_pow_right (by decide) (by omega)
    show (cW u p j <<< ((8 : Int32).toInt64 &&& 63)) ||| (sb (u (p + j))).toInt64 = lN (cv (j + 1) (27 * wM u p j + (u (p + j) - 96)))
    rw [ih (by omega) (fun i hi => h i (by omega)), h2, shl8 (Nat.lt_of_lt_of_le h3 (Nat.le_trans h4 (by decide))) (by omega), cv_s (by omega) (by omega)]
    congr 1
    omega
theorem dM_lt : ∀ j, (∀ i, i < j → isDn (u (p + i)) = true) → dM u p j < 10 ^ j := by
  intro j
  induction j with
  | zero => intro _; exact Nat.one_pos
  | succ j ih =>
    intro h
    have := ih (fun i hi => h i (by omega))
    have := isDn_bd.mp (h j (by omega))
    show 10 * dM u p j + (u (p + j) - 48) < 10 ^ (j + 1)
    rw [Nat.pow_succ]
    omega
theorem cD_dM : ∀ j, (∀ i, i < j → isDn (u (p + i)) = true) → cD u p j = nI (dM u p j) := by
  intro j
  induction j with
  | zero => intro _; rfl
  | succ j ih =>
    intro h
    have h1 := isDn_bd.mp (h j (by omega))
    have h2 : sb (u (p + j)) = nI (u (p + j)) := tb_p ⟨u (p + j), by omega⟩ (Or.inr (h j (by omega)))
    show ((cD u p j * (10 : Int32)) + sb (u (p + j))) - (48 : Int32) = nI (10 * dM u p j + (u (p + j) - 48))
    rw [ih (fun i hi => h i (by omega)), h2, Int32.mul_comm, show (10 : Int32) * nI (dM u p j) = nI (10 * dM u p j) from pk_mul 10 _, nI_add, show 10 * dM u p j + u (p + j) = (10 * dM u p j + (u (p + j) - 48)) + 48 by omega, ← nI_add]
    exact Int32.add_sub_cancel _ _
/-- the kind of a word -/
def kwF (m : Nat) : Nat → Nat
  | 0 => 1
  | j + 1 => if (keyv j).toBitVec.toNat = m then 20 + j else kwF m j
theorem kwF_st {m i : Nat} (hi : i < 11) (h : (keyv i).toBitVec.toNat = m) : ∀ j, i < j → j ≤ 11 → kwF m j = 20 + i := by
  intro j
  induction j with
  | zero => intro h1; omega
  | succ j ih =>
    intro h1 h2
    show (if (keyv j).toBitVec.toNat = m then 20 + j else kwF m j) = 20 + i
    by_cases e0 : j = i
    · rw [e0, if_pos h]
    · rw [if_neg (fun z => e0 ?_), ih (by omega) (by omega)]
      have := (ky_cv ⟨i, hi⟩).2.2 ⟨j, by omega⟩ (by
        apply Int64.toBitVec_inj.mp
        apply BitVec.eq_of_toNat_eq
        exact z.trans h.symm)
      exact congrArg Fin.val this
theorem ck_kw : ∀ j : Fin 11, ck (20 + j.val) = 100 + j.val := by decide
theorem lN_in {a b : Nat} (ha : a < 2 ^ 64) (hb : b < 2 ^ 64) (h : lN a = lN b) : a = b := by
  have : (lN a).toBitVec.toNat = (lN b).toBitVec.toNat := by rw [h]
  have : a % 2 ^ 64 = b % 2 ^ 64 := this
  omega
end CT
