/-! the class cuts: a token, all -/
/-- a token's kind, value and end -/
def tkQ (u : Nat → Nat) (e p : Nat) : Nat := if isLn (u p) = true then rn (fun i => isLn (u i)) e p else if isDn (u p) = true then rn (fun i => isDn (u i)) e p else p + 1
def tkK (u : Nat → Nat) (e p : Nat) : Nat := if isLn (u p) = true then (if tkQ u e p - p ≤ 8 then kwF (wM u p (tkQ u e p - p)) 11 else 3) else if isDn (u p) = true then (if tkQ u e p - p ≤ 4 then 2 else 3) else sgk (u p)
def tkV (u : Nat → Nat) (e p : Nat) : Nat := if isLn (u p) = true then wM u p (tkQ u e p - p) else dM u p (tkQ u e p - p)
section CC
variable {u : Nat → Nat} {e k p : Nat} {σ : Wd}
theorem gI_s {c j : Nat} {v : Int32} : gI (uI σ c j v) c j = v := by rw [gI_uI, if_pos ⟨rfl, rfl⟩]
theorem nI_nat {a b : Nat} (h : b ≤ a) : nI a - nI b = nI (a - b) := by
  have : a = (a - b) + b := by omega
  rw [show nI a = nI (a - b) + nI b by rw [nI_add, ← this]]
  exact Int32.add_sub_cancel _ _
theorem kwF_1 {m : Nat} : ∀ j, kwF m j = 1 ∨ ∃ i, i < j ∧ (keyv i).toBitVec.toNat = m ∧ kwF m j = 20 + i := by
  intro j
  induction j with
  | zero => exact Or.inl rfl
  | succ j ih =>
    show (if (keyv j).toBitVec.toNat = m then 20 + j else kwF m j) = 1 ∨ ∃ i, i < j + 1 ∧ _ ∧ (if (keyv j).toBitVec.toNat = m then 20 + j else kwF m j) = 20 + i
    by_cases h : (keyv j).toBitVec.toNat = m
    · rw [if_pos h]; exact Or.inr ⟨j, by omega, h, rfl⟩
    · rw [if_neg h]
      rcases ih with a | ⟨i, a, b, c⟩
      · exact Or.inl a
      · exact Or.inr ⟨i, by omega, b, c⟩
theorem c_kw {v2 : Int32} {m : Nat} {x : Int64} (h3 : gI σ 6 3 = nI k) (hk : k < 402) (h7 : gI σ 7 k = 2) (hm : m < 27 ^ 8) (hx : x = lN (cv 8 m)) : iter (fun s : Int32 × Wd => M_X6_takeWord_L95 x s.1 s.2) FU ((0 : Int32), σ) = some (uI σ 7 k (nI (ck (kwF m 11)))) := by
  have hkw : ∀ i, i < 11 → (lg_cmp (wdF i) x ≠ 0 ↔ (keyv i).toBitVec.toNat ≠ m) := fun i hi => by
    obtain ⟨a, b, _⟩ := ky_cv ⟨i, hi⟩
    have a : wdF i = lN (cv 8 ((keyv i).toBitVec.toNat)) := a
    have b : (keyv i).toBitVec.toNat < 27 ^ 8 := b
    refine not_congr ((lg_cmp_eq _ _).trans ?_)
    rw [a, hx]
    exact ⟨fun z => cv_inj 8 _ _ b hm (lN_in (cv_lt 8 _) (cv_lt 8 _) z), fun z => by rw [z]⟩
  obtain ⟨y, h1, h2⟩ := ow_for (body := fun s : Int32 × Wd => M_X6_takeWord_L95 x s.1 s.2) (Q := fun y => y = uI σ 7 k (nI (ck (kwF m 11)))) (fun i s => (s = (nI i, σ) ∧ kwF m i = 1) ∨ (∃ j, j < i ∧ s = (nI i, uI σ 7 k (nI (100 + j))) ∧ (keyv j).toBitVec.toNat = m)) 11 (FU_big (by omega)) (fun i s hi hs => by
    rcases hs with ⟨rfl, ha⟩ | ⟨j, hj, rfl, ha⟩
    · show ow (M_X6_takeWord_L95 x (nI i) σ) _
      unfold M_X6_takeWord_L95
      rw [if_neg (fun z => by have := (nI_leI (a := 11) (by omega) (by omega)).mp z; omega), h3, chk_pos ((ib_nI (by omega)).mpr hk), ix_nI (by omega), h7, if_neg (fun z => z rfl), chk_pos ((ib_nI (by omega)).mpr hi), chk_pos ((ib_nI (by omega)).mpr hk), ix_nI (by omega)]
      simp only [lt_eq]
      rw [nI_1]
      by_cases hq : (keyv i).toBitVec.toNat = m
      · rw [if_neg (fun z => (hkw i hi).mp z hq)]
        exact ow_some.mpr (Or.inr ⟨i, by omega, by rw [show (100 : Int32) = nI 100 from rfl, nI_add], hq⟩)
      · rw [if_pos ((hkw i hi).mpr hq)]
        exact ow_some.mpr (Or.inl ⟨rfl, by show (if (keyv i).toBitVec.toNat = m then 20 + i else kwF m i) = 1; rw [if_neg hq]; exact ha⟩)
    · show ow (M_X6_takeWord_L95 x (nI i) (uI σ 7 k (nI (100 + j)))) _
      unfold M_X6_takeWord_L95
      rw [if_neg (fun z => by have := (nI_leI (a := 11) (by omega) (by omega)).mp z; omega), show gI (uI σ 7 k (nI (100 + j))) 6 3 = nI k by rw [gI_uI, if_neg (by omega)]; exact h3, chk_pos ((ib_nI (by omega)).mpr hk), ix_nI (by omega), gI_s, if_pos (show nI (100 + j) ≠ 2 from fun z => by have := (nI_eq (b := 2) (show 100 + j < 2 ^ 31 by omega) (by omega)).mp z; omega)]
      refine ow_some.mpr ?_
      show _ = _
      rw [kwF_st (by omega) ha 11 (by omega) (Nat.le_refl _), ck_kw ⟨j, by omega⟩]) (fun s hs => by
    rcases hs with ⟨rfl, ha⟩ | ⟨j, hj, rfl, ha⟩
    · show ow (M_X6_takeWord_L95 x (nI 11) σ) _
      unfold M_X6_takeWord_L95
      rw [if_pos (by decide)]
      refine ow_some.mpr ?_
      show _ = _
      rw [ha, show nI (ck 1) = gI σ 7 k from h7.symm, uI_self]
    · show ow (M_X6_takeWord_L95 x (nI 11) (uI σ 7 k (nI (100 + j)))) _
      unfold M_X6_takeWord_L95
      rw [if_pos (by decide)]
      refine ow_some.mpr ?_
      show _ = _
      rw [kwF_st (by omega) ha 11 (by omega) (Nat.le_refl _), ck_kw ⟨j, by omega⟩]) 0 ((0 : Int32), σ) (Nat.zero_le _) (Or.inl ⟨rfl, rfl⟩)
  exact h1.trans (congrArg some h2)
theorem c_word (hB : ByC u e σ) (h5 : gI σ 6 5 = nI p) (h3 : gI σ 6 3 = nI k) (hk : k < 402) (hp : p < e) : ∃ x, M_X6_takeWord σ (nI e) = some (uI (uL (uI σ 6 5 (nI (rn (fun i => isLn (u i)) e p))) 9 k x) 7 k (nI (ck (if rn (fun i => isLn (u i)) e p - p ≤ 8 then kwF (wM u p (rn (fun i => isLn (u i)) e p - p)) 11 else 3)))) ∧ (rn (fun i => isLn (u i)) e p - p ≤ 8 → x = lN (cv 8 (wM u p (rn (fun i => isLn (u i)) e p - p))) ∧ wM u p (rn (fun i => isLn (u i)) e p - p) < 27 ^ 8) := by
  have he := hB.1
  obtain ⟨r1, r2, r3, _⟩ := rn_bd (P := fun i => isLn (u i)) (e := e) (e - p) p rfl (by omega)
  have L := rn_loop (body := fun s : Int64 × Wd => M_X6_takeWord_L8 (nI e) (nI p) s.1 s.2) (st := fun q => (cW u p (q - p), uI σ 6 5 (nI q))) (fin := fun q => (cW u p (q - p), uI σ 6 5 (nI q))) (P := fun i => isLn (u i)) (e := e) (p0 := p) (fun q hq hqe => by
    show M_X6_takeWord_L8 (nI e) (nI p) (cW u p (q - p)) (uI σ 6 5 (nI q)) = _
    unfold M_X6_takeWord_L8
    rw [g65]
    by_cases h0 : q < e
    · obtain ⟨b1, b2⟩ := (ByC_uI hB (c := 6) (j := 5) (v := nI q) (by decide)).2 q h0
      have ci : ib (nI q) 2000 := (ib_nI (by omega)).mpr (by omega)
      have tl : M_X6_isLetter (sb (u q)) = some (boI (isLn (u q))) := (tb_cL ⟨u q, b1⟩).1
      rw [if_neg (fun z => by have := (nI_leI (by omega) (by omega)).mp z; omega), chk_pos ci, chk_pos ci, ix_nI (by omega), b2, tl, bnd1_some, uI_uI, nI_1]
      simp only [lt_eq]
      by_cases hl : isLn (u q) = true
      · rw [if_neg (fun z => by rw [(boI_eq _).mp z] at hl; exact Bool.noConfusion hl), if_pos ⟨h0, hl⟩, show q + 1 - p = (q - p) + 1 by omega]
        show some (Sum.inl (_, _)) = some (Sum.inl ((cW u p (q - p) <<< ((8 : Int32).toInt64 &&& 63)) ||| (sb (u (p + (q - p)))).toInt64, _))
        rw [show p + (q - p) = q by omega]
      · rw [if_pos ((boI_eq _).mpr (Bool.eq_false_iff.mpr hl)), if_neg (fun z => hl z.2)]
    · rw [if_pos ((nI_leI (by omega) (by omega)).mpr (by omega)), if_neg (fun z => h0 z.1)]) (e - p) p FU (Nat.le_refl _) (by omega) rfl (FU_big (by omega))
  have e0 : uI σ 6 5 (nI p) = σ := by rw [← h5]; exact uI_self
  have L : iter (fun s : Int64 × Wd => M_X6_takeWord_L8 (nI e) (nI p) s.1 s.2) FU (cW u p (p - p), uI σ 6 5 (nI p)) = _ := L
  rw [e0, Nat.sub_self] at L
  have L : iter (fun s : Int64 × Wd => M_X6_takeWord_L8 (nI e) (nI p) s.1 s.2) FU ((0 : Int64), σ) = _ := L
  unfold M_X6_takeWord
  simp only [lt_eq]
  rw [h5, L, bnd1_some]
  generalize hq : rn (fun i => isLn (u i)) e p = q at *
  refine ⟨cW u p (q - p), ?_, fun h8 => ?_⟩
  · show M_X6_takeWord_J56 (uI σ 6 5 (nI q)) (nI p) (cW u p (q - p)) = _
    unfold M_X6_takeWord_J56
    have c3 : gI (uI σ 6 5 (nI q)) 6 3 = nI k := by rw [gI_uI, if_neg (by omega)]; exact h3
    rw [c3, chk_pos ((ib_nI (by omega)).mpr hk), ix_nI (by omega)]
    simp only [lt_eq]
    have c3' : gI (uL (uI σ 6 5 (nI q)) 9 k (cW u p (q - p))) 6 3 = nI k := c3
    have c5' : gI (uL (uI σ 6 5 (nI q)) 9 k (cW u p (q - p))) 6 5 = nI q := by rw [gI_uL]; exact gI_s
    rw [c3', c5', nI_nat r1]
    unfold M_X6_takeWord_J91
    by_cases h8 : q - p ≤ 8
    · rw [if_pos (show nI (q - p) ≤ 8 from (nI_leI (b := 8) (by omega) (by omega)).mpr h8), if_pos h8, chk_pos ((ib_nI (by omega)).mpr hk), ix_nI (by omega)]
      simp only [lt_eq]
      have hl : ∀ i, i < q - p → isLn (u (p + i)) = true := fun i hi => r3 (p + i) (by omega) (by omega)
      have w1 := wM_lt (u := u) (p := p) (q - p) hl
      rw [c_kw (v2 := 0) (m := wM u p (q - p)) (by rw [gI_uI, if_neg (by omega)]; exact c3') hk (by rw [gI_uI, if_pos ⟨rfl, rfl⟩]) (Nat.lt_of_lt_of_le w1 (Nat.pow_le_pow_right (by decide) h8)) (by rw [cW_wM (q - p) h8 hl, cv_8 8 (q - p) _ w1 h8]), bnd1_some, uI_uI]
      rfl
    · rw [if_neg (show ¬ nI (q - p) ≤ 8 from fun z => h8 ((nI_leI (b := 8) (by omega) (by omega)).mp z)), if_neg h8, chk_pos ((ib_nI (by omega)).mpr hk), ix_nI (by omega)]
      simp only [lt_eq]
      have c3'' : gI (uI (uL (uI σ 6 5 (nI q)) 9 k (cW u p (q - p))) 7 k 1) 6 3 = nI k := by rw [gI_uI, if_neg (by omega)]; exact c3'
      rw [show FU = 999999 + 1 from rfl, it_x (x := uI (uL (uI σ 6 5 (nI q)) 9 k (cW u p (q - p))) 7 k 1) (by
        show M_X6_takeWord_L95 _ 0 _ = _
        unfold M_X6_takeWord_L95
        rw [if_neg (by decide), c3'', chk_pos ((ib_nI (by omega)).mpr hk), ix_nI (by omega), gI_s, if_pos (by decide)]), bnd1_some]
      rfl
  · have hl : ∀ i, i < q - p → isLn (u (p + i)) = true := fun i hi => r3 (p + i) (by omega) (by omega)
    have w1 := wM_lt (u := u) (p := p) (q - p) hl
    exact ⟨by rw [cW_wM (q - p) h8 hl, cv_8 8 (q - p) _ w1 h8], Nat.lt_of_lt_of_le w1 (Nat.pow_le_pow_right (by decide) h8)⟩
theorem c_int (hB : ByC u e σ) (h5 : gI σ 6 5 = nI p) (h3 : gI σ 6 3 = nI k) (hk : k < 402) (hp : p < e) : ∃ x, M_X6_takeInt σ (nI e) = some (uI (uL (uI σ 6 5 (nI (rn (fun i => isDn (u i)) e p))) 9 k x) 7 k (nI (ck (if rn (fun i => isDn (u i)) e p - p ≤ 4 then 2 else 3)))) ∧ (rn (fun i => isDn (u i)) e p - p ≤ 4 → x = lN (dM u p (rn (fun i => isDn (u i)) e p - p)) ∧ dM u p (rn (fun i => isDn (u i)) e p - p) ≤ 9999) := by
  have he := hB.1
  obtain ⟨r1, r2, r3, _⟩ := rn_bd (P := fun i => isDn (u i)) (e := e) (e - p) p rfl (by omega)
  have L := rn_loop (body := fun s : Int32 × Wd => M_X6_takeInt_L8 (nI e) (nI p) s.1 s.2) (st := fun q => (cD u p (q - p), uI σ 6 5 (nI q))) (fin := fun q => (cD u p (q - p), uI σ 6 5 (nI q))) (P := fun i => isDn (u i)) (e := e) (p0 := p) (fun q hq hqe => by
    show M_X6_takeInt_L8 (nI e) (nI p) (cD u p (q - p)) (uI σ 6 5 (nI q)) = _
    unfold M_X6_takeInt_L8
    rw [g65]
    by_cases h0 : q < e
    · obtain ⟨b1, b2⟩ := (ByC_uI hB (c := 6) (j := 5) (v := nI q) (by decide)).2 q h0
      have ci : ib (nI q) 2000 := (ib_nI (by omega)).mpr (by omega)
      have tl : M_X6_isDigit (sb (u q)) = some (boI (isDn (u q))) := (tb_cL ⟨u q, b1⟩).2.1
      rw [if_neg (fun z => by have := (nI_leI (by omega) (by omega)).mp z; omega), chk_pos ci, chk_pos ci, ix_nI (by omega), b2, tl, bnd1_some, uI_uI, nI_1]
      simp only [lt_eq]
      by_cases hl : isDn (u q) = true
      · rw [if_neg (fun z => by rw [(boI_eq _).mp z] at hl; exact Bool.noConfusion hl), if_pos ⟨h0, hl⟩, show q + 1 - p = (q - p) + 1 by omega]
        show some (Sum.inl (_, _)) = some (Sum.inl (((cD u p (q - p) * (10 : Int32)) + sb (u (p + (q - p)))) - (48 : Int32), _))
        rw [show p + (q - p) = q by omega]
      · rw [if_pos ((boI_eq _).mpr (Bool.eq_false_iff.mpr hl)), if_neg (fun z => hl z.2)]
    · rw [if_pos ((nI_leI (by omega) (by omega)).mpr (by omega)), if_neg (fun z => h0 z.1)]) (e - p) p FU (Nat.le_refl _) (by omega) rfl (FU_big (by omega))
  have e0 : uI σ 6 5 (nI p) = σ := by rw [← h5]; exact uI_self
  have L : iter (fun s : Int32 × Wd => M_X6_takeInt_L8 (nI e) (nI p) s.1 s.2) FU (cD u p (p - p), uI σ 6 5 (nI p)) = _ := L
  rw [e0, Nat.sub_self] at L
  have L : iter (fun s : Int32 × Wd => M_X6_takeInt_L8 (nI e) (nI p) s.1 s.2) FU ((0 : Int32), σ) = _ := L
  unfold M_X6_takeInt
  simp only [lt_eq]
  rw [h5, L, bnd1_some]
  generalize hq : rn (fun i => isDn (u i)) e p = q at *
  refine ⟨(cD u p (q - p)).toInt64, ?_, fun h8 => ?_⟩
  · show M_X6_takeInt_J58 (uI σ 6 5 (nI q)) (nI p) (cD u p (q - p)) = _
    unfold M_X6_takeInt_J58
    have c3 : gI (uI σ 6 5 (nI q)) 6 3 = nI k := by rw [gI_uI, if_neg (by omega)]; exact h3
    rw [c3, chk_pos ((ib_nI (by omega)).mpr hk), ix_nI (by omega)]
    simp only [lt_eq]
    have c3' : gI (uL (uI σ 6 5 (nI q)) 9 k (cD u p (q - p)).toInt64) 6 3 = nI k := c3
    have c5' : gI (uL (uI σ 6 5 (nI q)) 9 k (cD u p (q - p)).toInt64) 6 5 = nI q := by rw [gI_uL]; exact gI_s
    rw [c3', c5', nI_nat r1]
    unfold M_X6_takeInt_J93
    by_cases h8 : q - p ≤ 4
    · rw [if_pos (show nI (q - p) ≤ 4 from (nI_leI (b := 4) (by omega) (by omega)).mpr h8), if_pos h8, chk_pos ((ib_nI (by omega)).mpr hk), ix_nI (by omega)]
      rfl
    · rw [if_neg (show ¬ nI (q - p) ≤ 4 from fun z => h8 ((nI_leI (b := 4) (by omega) (by omega)).mp z)), if_neg h8, chk_pos ((ib_nI (by omega)).mpr hk), ix_nI (by omega)]
      rfl
  · have hl : ∀ i, i < q - p → isDn (u (p + i)) = true := fun i hi => r3 (p + i) (by omega) (by omega)
    have w1 := dM_lt (u := u) (p := p) (q - p) hl
    have w2 : (10 : Nat) ^ (q - p) ≤ 10 ^ 4 := Nat.pow_le_pow_right (by decide) h8
    exact ⟨by rw [cD_dM (q - p) hl, lN_I (by omega)], by omega⟩
/-- what a token laid at k leaves -/
def TkS (k K V q : Nat) (σ σ' : Wd) : Prop := (∀ c, c ≠ 6 → c ≠ 7 → σ'.1 c = σ.1 c) ∧ (∀ c, c ≠ 9 → σ'.2.1 c = σ.2.1 c) ∧ σ'.2.2 = σ.2.2 ∧ (∀ j, j ≠ 5 → gI σ' 6 j = gI σ 6 j) ∧ gI σ' 6 5 = nI q ∧ (∀ j, j ≠ k → gI σ' 7 j = gI σ 7 j ∧ gL σ' 9 j = gL σ 9 j) ∧ gI σ' 7 k = nI (ck K) ∧ (K = 1 → gL σ' 9 k = lN (cv 8 V) ∧ V < 27 ^ 8) ∧ (K = 2 → gL σ' 9 k = lN V ∧ V ≤ 9999)
theorem TkS_mk {k K V q : Nat} {x : Int64} (h1 : K = 1 → x = lN (cv 8 V) ∧ V < 27 ^ 8) (h2 : K = 2 → x = lN V ∧ V ≤ 9999) : TkS k K V q σ (uI (uL (uI σ 6 5 (nI q)) 9 k x) 7 k (nI (ck K))) := by
  have eL : gL (uI (uL (uI σ 6 5 (nI q)) 9 k x) 7 k (nI (ck K))) 9 k = x := by
    show gL (uL (uI σ 6 5 (nI q)) 9 k x) 9 k = x
    rw [gL_uL, if_pos ⟨rfl, rfl⟩]
  refine ⟨fun c a b => ?_, fun c a => ?_, rfl, fun j hj => ?_, ?_, fun j hj => ⟨?_, ?_⟩, gI_s, fun z => ⟨eL.trans (h1 z).1, (h1 z).2⟩, fun z => ⟨eL.trans (h2 z).1, (h2 z).2⟩⟩
  · funext j
    show gI (uI (uL (uI σ 6 5 (nI q)) 9 k x) 7 k (nI (ck K))) c j = gI σ c j
    rw [gI_uI, if_neg (fun z => b z.1), gI_uL, gI_uI, if_neg (fun z => a z.1)]
  · funext j
    show gL (uL (uI σ 6 5 (nI q)) 9 k x) c j = gL σ c j
    rw [gL_uL, if_neg (fun z => a z.1)]
    rfl
  · rw [gI_uI, if_neg (by omega), gI_uL, gI_uI, if_neg (fun z => hj z.2)]
  · rw [gI_uI, if_neg (by omega), gI_uL, gI_s]
  · rw [gI_uI, if_neg (fun z => hj z.2), gI_uL, gI_uI, if_neg (by omega)]
  · show gL (uL (uI σ 6 5 (nI q)) 9 k x) 9 j = gL σ 9 j
    rw [gL_uL, if_neg (fun z => hj z.2)]
    rfl
theorem sgk_n (n : Nat) : sgk n ≠ 1 ∧ sgk n ≠ 2 := by
  unfold sgk
  constructor <;> (repeat' split) <;> decide
theorem kwF_2 {m : Nat} (j : Nat) : kwF m j ≠ 2 ∧ kwF m j ≠ 0 := by
  rcases kwF_1 (m := m) j with h | ⟨i, _, _, h⟩ <;> rw [h] <;> omega
theorem c_one (hB : ByC u e σ) (h5 : gI σ 6 5 = nI p) (h3 : gI σ 6 3 = nI k) (hk : k < 402) (hp : p < e) : ∃ σ', M_X6_takeOne σ (nI e) = some σ' ∧ TkS k (tkK u e p) (tkV u e p) (tkQ u e p) σ σ' := by
  have he := hB.1
  obtain ⟨b1, b2⟩ := hB.2 p hp
  obtain ⟨t1, t2, _⟩ := tb_cL ⟨u p, b1⟩
  have t1 : M_X6_isLetter (sb (u p)) = some (boI (isLn (u p))) := t1
  have t2 : M_X6_isDigit (sb (u p)) = some (boI (isDn (u p))) := t2
  unfold M_X6_takeOne tkK tkV tkQ
  rw [h5, chk_pos ((ib_nI (by omega)).mpr (by omega)), ix_nI (by omega), b2]
  simp only [lt_eq]
  rw [t1, bnd1_some]
  by_cases hl : isLn (u p) = true
  · obtain ⟨x, x1, x2⟩ := c_word hB h5 h3 hk hp
    rw [if_neg (fun z => by rw [(boI_eq _).mp z] at hl; exact Bool.noConfusion hl), x1, bnd1_some, if_pos hl, if_pos hl, if_pos hl]
    refine ⟨_, rfl, TkS_mk (fun z => ?_) (fun z => ?_)⟩
    · by_cases h8 : rn (fun i => isLn (u i)) e p - p ≤ 8
      · exact x2 h8
      · rw [if_neg h8] at z; omega
    · by_cases h8 : rn (fun i => isLn (u i)) e p - p ≤ 8
      · rw [if_pos h8] at z; exact absurd z (kwF_2 _).1
      · rw [if_neg h8] at z; omega
  · rw [if_pos ((boI_eq _).mpr (Bool.eq_false_iff.mpr hl)), t2, bnd1_some, if_neg hl, if_neg hl, if_neg hl]
    by_cases hd : isDn (u p) = true
    · obtain ⟨x, x1, x2⟩ := c_int hB h5 h3 hk hp
      rw [if_neg (fun z => by rw [(boI_eq _).mp z] at hd; exact Bool.noConfusion hd), x1, bnd1_some, if_pos hd, if_pos hd]
      refine ⟨_, rfl, TkS_mk (fun z => ?_) (fun z => ?_)⟩
      · by_cases h8 : rn (fun i => isDn (u i)) e p - p ≤ 4
        · rw [if_pos h8] at z; omega
        · rw [if_neg h8] at z; omega
      · by_cases h8 : rn (fun i => isDn (u i)) e p - p ≤ 4
        · exact x2 h8
        · rw [if_neg h8] at z; omega
    · obtain ⟨r, r1, r2⟩ := j_idx σ b1
      rw [if_pos ((boI_eq _).mpr (Bool.eq_false_iff.mpr hd)), r1, bnd1_some, if_neg hd, if_neg hd]
      have fin : ∀ t0, t0 = nI (ck (sgk (u p))) → ∃ σ', M_X6_takeOne_J66 σ t0 (gI σ 6 3) = some σ' ∧ TkS k (sgk (u p)) (dM u p (p + 1 - p)) (p + 1) σ σ' := fun t0 ht => by
        subst ht
        unfold M_X6_takeOne_J66
        rw [h3, chk_pos ((ib_nI (by omega)).mpr hk), ix_nI (by omega)]
        simp only [lt_eq]
        have c3 : gI (uI σ 7 k (nI (ck (sgk (u p))))) 6 3 = nI k := by rw [gI_uI, if_neg (by omega)]; exact h3
        rw [c3, chk_pos ((ib_nI (by omega)).mpr hk), ix_nI (by omega)]
        have c5 : gI (uL (uI σ 7 k (nI (ck (sgk (u p))))) 9 k 0) 6 5 = nI p := by rw [gI_uL, gI_uI, if_neg (by omega)]; exact h5
        rw [c5, nI_1]
        refine ⟨_, rfl, fun c a b => ?_, fun c a => ?_, rfl, fun j hj => ?_, gI_s, fun j hj => ⟨?_, ?_⟩, ?_, fun z => absurd z (sgk_n _).1, fun z => absurd z (sgk_n _).2⟩
        · funext j
          show gI (uI (uL (uI σ 7 k _) 9 k 0) 6 5 _) c j = gI σ c j
          rw [gI_uI, if_neg (fun z => a z.1), gI_uL, gI_uI, if_neg (fun z => b z.1)]
        · funext j
          show gL (uL (uI σ 7 k _) 9 k 0) c j = gL σ c j
          rw [gL_uL, if_neg (fun z => a z.1)]
          rfl
        · rw [gI_uI, if_neg (fun z => hj z.2), gI_uL, gI_uI, if_neg (by omega)]
        · rw [gI_uI, if_neg (by omega), gI_uL, gI_uI, if_neg (fun z => hj z.2)]
        · show gL (uL (uI σ 7 k _) 9 k 0) 9 j = gL σ 9 j
          rw [gL_uL, if_neg (fun z => hj z.2)]
          rfl
        · rw [gI_uI, if_neg (by omega), gI_uL, gI_s]
      by_cases hs : sgk (u p) = 3
      · rw [if_pos (r2.mpr hs)]
        exact fin 1 (by rw [hs]; rfl)
      · rw [if_neg (fun z => hs (r2.mp z))]
        exact fin _ (tb_s ⟨u p, b1⟩ hs)
end CC
