/-! counts of sets; lacks, share -/
theorem cn_0 {P : Nat → Bool} : ∀ k, (∀ w, w < k → P w = false) → cnN P k = 0 := by
  intro k
  induction k with
  | zero => intro _; rfl
  | succ k ih =>
    intro h
    show (if P k = true then cnN P k + 1 else cnN P k) = 0
    rw [if_neg (by rw [h k (by omega)]; decide)]
    exact ih (fun w hw => h w (by omega))
theorem cn64 {x : Int64} {P : Nat → Bool} {W : Nat} (hW : W ≤ 64) (hx : ∀ w, w < 64 → x.toBitVec.getLsbD w = P w) (hP : ∀ w, P w = true → w < W) : M_J13_bitCount_95d88 x = some (nI (cnN P W)) := by
  rw [c_bits, cnN_eq 64 hx, show 64 = W + (64 - W) by omega, cnN_add, cn_0 (64 - W) (fun w hw => by
    cases h : P (w + W) with
    | false => rfl
    | true => have := hP _ h; omega), Nat.add_zero]
theorem lk_cn {g : Gs} {a b : Nat} : ∀ k, lkN g a b k = cnN (fun w => decide (gA g a w = 1) && !decide (gA g b w = 1)) k := by
  intro k
  induction k with
  | zero => rfl
  | succ k ih =>
    show (if gA g a k = 1 ∧ gA g b k ≠ 1 then lkN g a b k + 1 else lkN g a b k) = (if (decide (gA g a k = 1) && !decide (gA g b k = 1)) = true then _ + 1 else _)
    rw [ih]
    by_cases h : gA g a k = 1 ∧ gA g b k ≠ 1
    · rw [if_pos h, if_pos (by simp [h.1, h.2])]
    · rw [if_neg h, if_neg (fun z => h (by simpa using z))]
section CS
variable {T : Td} {t l : Nat} {g : Gs} {σ τ : Wd}
theorem c_count (h : Qd T t l g σ τ) {c : Nat} (hc : c < 5) : M_J13_bitCount_95d88 (gL σ 29 (6 + c)) = some (nI (cnN (hsP g c) (gW g))) := by
  obtain ⟨hW, hO, hP, hn⟩ := q_bd h
  exact cn64 (by omega) (fun w hw => q_set h hc hw) (fun w hw => (h.2.2.2.2.1.2.2.2.2.2.1 c w (of_decide_eq_true hw)).1)
theorem lgn_cn {n m c : Nat} {g : Gs} (hI : Inv n m g) (hc : c < 5) : lgn g (hsP g c) (gK g c) = cnN (hsP g c) (gW g) := by
  have lf := lg_facts hI hc
  exact (cnN_bij (P := hsP g c) (gW g) _ (lgf g (hsP g c) (gK g c)) (fun i hi => ⟨lf.1 i hi, decide_eq_true (lf.2.2.2.1 i hi)⟩) lf.2.1 (fun w hw hP => lf.2.2.2.2 w hw (of_decide_eq_true hP))).symm
theorem c_lacks (h : Qd T t l g σ τ) {a b : Nat} (ha : a < 5) (hb : b < 5) : M_J13_bitCount_95d88 (gL σ 29 (6 + a) &&& (gL σ 29 (6 + b) ^^^ (-1 : Int64))) = some (nI (lkN g a b (gW g))) := by
  obtain ⟨hW, hO, hP, hn⟩ := q_bd h
  rw [lk_cn]
  refine cn64 (by omega) (fun w hw => by rw [bit_andn hw, q_set h ha hw, q_set h hb hw]) (fun w hw => ?_)
  have hw : (decide (gA g a w = 1) && !decide (gA g b w = 1)) = true := hw
  rw [Bool.and_eq_true] at hw
  exact (h.2.2.2.2.1.2.2.2.2.2.1 a w (of_decide_eq_true hw.1)).1
end CS
theorem st_22 : Sp_22 Rel := by
  intro σ τ h a b
  obtain ⟨T, t, l, g, τ1, hc, hK, hR, hQ, hT⟩ := ask_start h
  obtain ⟨hW, hO, hP, hn⟩ := q_bd hQ
  unfold M_X8_lacks M_X9_lacks
  rw [hc, bnd1_some]
  rcases q_isCopy hQ.1 a with ⟨c, hc5, rfl, e1, e2⟩ | ⟨e1, e2⟩
  · rw [e2, bnd1_some, if_neg n10]
    rcases q_isCopy hQ.1 b with ⟨d, hd5, rfl, f1, f2⟩ | ⟨f1, f2⟩
    · rw [are_t e1 f1, bnd1_some, if_neg n10, f2, bnd1_some, if_neg n10, c_setOf (by omega), bnd1_some, c_setOf (by omega), bnd1_some, c_lacks hQ (by omega) (by omega), bnd1_some, m_lacks hQ (by omega) (by omega), bnd1_some]
      exact ⟨_, _, rfl, rfl, hR⟩
    · rw [are_g e1 f1, bnd1_some, if_pos rfl, f2, bnd1_some, if_pos rfl]
      exact ⟨_, _, rfl, rfl, hR⟩
  · rw [are_f e1, bnd1_some, if_pos rfl, e2, bnd1_some, if_pos rfl]
    exact ⟨_, _, rfl, rfl, hR⟩
theorem fl_ok : ∀ k : Fin 61, ∀ n : Fin 61, 1 ≤ n.val → k.val ≤ n.val → nn32 (FP.fmul (1148846080 : UInt32) (FP.i2f (nI k.val))) ∧ nn32 (FP.fdiv (FP.fmul (1148846080 : UInt32) (FP.i2f (nI k.val))) (FP.i2f (nI n.val))) ∧ FP.f2i (FP.fdiv (FP.fmul (1148846080 : UInt32) (FP.i2f (nI k.val))) (FP.i2f (nI n.val))) = nI (1000 * k.val / n.val) := by decide +kernel
theorem st_30 : Sp_30 Rel := by
  intro σ τ h a
  obtain ⟨T, t, l, g, τ1, hc, hK, hR, hQ, hT⟩ := ask_start h
  obtain ⟨hW, hO, hP, hn⟩ := q_bd hQ
  unfold M_X8_share M_X9_share
  rcases q_isCopy hT a with ⟨c, hc5, rfl, e1, e2⟩ | ⟨e1, e2⟩
  · obtain ⟨G, r1, r2⟩ := m_log (c := c) hQ (by omega)
    have hQ2 := hQ.kq (KQ.refl.W27 (F := G) (n := lgn g (hsP g c) (gK g c)))
    have hR2 : Rel σ (W27 τ1 G (lgn g (hsP g c) (gK g c))) := Rel_KM (KQ.refl.W27).1 hR
    have eW : gI (W27 τ1 G (lgn g (hsP g c) (gK g c))) 26 (ix (0 : Int32)) = nI (gW g) := hQ2.2.2.2.1.1.1
    rw [e1, bnd1_some, if_pos n01, q_writes hQ, bnd1_some, e2, bnd1_some, if_pos n01, hc, bnd1_some, r1, bnd1_some, chk_pos (by decide), eW]
    by_cases h0 : gW g = 0
    · rw [h0, if_neg (show ¬ nI 0 ≠ 0 by decide), if_neg (show ¬ nI 0 ≠ 0 by decide)]
      exact ⟨_, _, rfl, rfl, hR2⟩
    · have h1 : nI (gW g) ≠ 0 := nI_ne0 (by omega) (by omega)
      have hcn := cnN_le (P := hsP g c) (gW g)
      obtain ⟨f1, f2, f3⟩ := fl_ok ⟨cnN (hsP g c) (gW g), by omega⟩ ⟨gW g, by omega⟩ (show 1 ≤ gW g by omega) hcn
      have f1 : nn32 (FP.fmul (1148846080 : UInt32) (FP.i2f (nI (cnN (hsP g c) (gW g))))) := f1
      have f2 : nn32 (FP.fdiv (FP.fmul (1148846080 : UInt32) (FP.i2f (nI (cnN (hsP g c) (gW g))))) (FP.i2f (nI (gW g)))) := f2
      have f3 : FP.f2i (FP.fdiv (FP.fmul (1148846080 : UInt32) (FP.i2f (nI (cnN (hsP g c) (gW g))))) (FP.i2f (nI (gW g)))) = nI (1000 * cnN (hsP g c) (gW g) / gW g) := f3
      rw [if_pos h1, if_pos h1, c_setOf (by omega), bnd1_some, c_count hQ (by omega), bnd1_some, chk_pos f1, chk_pos f2]
      simp only [lt_eq]
      rw [f3, chk_pos (by decide), chk_pos h1, W27_45, lgn_cn hQ.2.2.2.2.1 (by omega), show (1000 : Int32) * nI (cnN (hsP g c) (gW g)) = nI (1000 * cnN (hsP g c) (gW g)) from pk_mul 1000 _, pk_div (by omega) (by omega) (by omega)]
      exact ⟨_, _, rfl, rfl, hR2⟩
  · rw [e1, bnd1_some, if_neg z00, e2, bnd1_some, if_neg z00]
    exact ⟨_, _, rfl, rfl, h⟩
