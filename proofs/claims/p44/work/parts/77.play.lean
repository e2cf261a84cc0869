/-! a copy's log done, on both sides -/
abbrev ln (g : Gs) (c : Nat) : Nat := lgn g (hsP g c) (gK g c)
abbrev lf (g : Gs) (c : Nat) : Nat → Nat := lgf g (hsP g c) (gK g c)
theorem ln_facts {n m c : Nat} {g : Gs} (hI : Inv n m g) (hc : c < 5) : (∀ i, i < ln g c → lf g c i < gW g) ∧ (∀ i j, i < j → j < ln g c → lf g c i ≠ lf g c j) ∧ ln g c ≤ gW g ∧ (∀ i, i < ln g c → gA g c (lf g c i) = 1) ∧ (∀ w, w < gW g → gA g c w = 1 → ∃ i, i < ln g c ∧ lf g c i = w) := lg_facts hI hc
def FQ (q : Nat) (σ σ' : Wd) : Prop := σ'.2 = σ.2 ∧ ∀ c, (c < q ∨ q + 6 < c) → σ'.1 c = σ.1 c
theorem FQ.refl {q : Nat} {σ : Wd} : FQ q σ σ := ⟨rfl, fun _ _ => rfl⟩
theorem FQ.trans {q : Nat} {a b c : Wd} (h : FQ q a b) (k : FQ q b c) : FQ q a c := ⟨k.1.trans h.1, fun x hx => (k.2 x hx).trans (h.2 x hx)⟩
theorem FQ.w {q c : Nat} {f : Nat → Int32} {σ σ' : Wd} (hc : q ≤ c ∧ c ≤ q + 6) (h : FQ q σ σ') : FQ q σ (rI σ' c f) := h.trans ⟨rfl, fun x hx => rI_ne (by omega)⟩
theorem FQ.kc {q : Nat} {σ σ' : Wd} (hq : 108 ≤ q) (h : FQ q σ σ') : KC σ σ' := fun c hc => ⟨h.2 c (Or.inl (by have := hc.1; omega)), by rw [show σ'.2.1 = σ.2.1 from congrArg Prod.fst h.1], by rw [show σ'.2.2 = σ.2.2 from congrArg Prod.snd h.1]⟩
def PlC (T : Td) (g : Gs) (c q : Nat) (σ : Wd) : Prop := gI σ q 2 = nI (ln g c) ∧ (∀ i, i < ln g c → gI σ (q + 3) i = nI (lf g c i)) ∧ (∀ i, i < ln g c → gI σ (q + 4) i = outS T g (lf g c) i ∧ gI σ (q + 5) i = chI (chS T g (lf g c) i)) ∧ (∀ i k, i ≤ ln g c → k < tC T → gI σ (q + 6) (6 * i + k) = envS T g (lf g c) i k)
def PlM (T : Td) (g : Gs) (c : Nat) (τ : Wd) : Prop := gI τ 0 45 = nI (ln g c) ∧ (∀ i, i < ln g c → gI τ 27 i = nI (lf g c i)) ∧ (∀ i, i < ln g c → gI τ 30 i = outS T g (lf g c) i ∧ gI τ 31 i = chI (chS T g (lf g c) i)) ∧ (∀ k, k < tC T → gI τ 29 k = envS T g (lf g c) (ln g c) k)
theorem PlC.o {T : Td} {g : Gs} {c q : Nat} {σ σ' : Wd} (h : PlC T g c q σ) (k : ∀ x, q ≤ x → x ≤ q + 6 → σ'.1 x = σ.1 x) : PlC T g c q σ' := by
  have e : ∀ x j, q ≤ x → x ≤ q + 6 → gI σ' x j = gI σ x j := fun x j h1 h2 => congrFun (k x h1 h2) j
  obtain ⟨a, b, d, f⟩ := h
  refine ⟨by rw [e q _ (by omega) (by omega)]; exact a, fun i hi => by rw [e (q + 3) _ (by omega) (by omega)]; exact b i hi, fun i hi => by rw [e (q + 4) _ (by omega) (by omega), e (q + 5) _ (by omega) (by omega)]; exact d i hi, fun i j hi hj => by rw [e (q + 6) _ (by omega) (by omega)]; exact f i j hi hj⟩
section PLAY
variable {T : Td} {t l : Nat} {g : Gs} {σ τ : Wd}
theorem c_play (h : Qd T t l g σ τ) {q c : Nat} (hq : 108 ≤ q) (hc : c < 5) : ∃ σ', M_X4_play σ q t (nI c) = some σ' ∧ FQ q σ σ' ∧ PlC T g c q σ' := by
  obtain ⟨hW, hO, hP, hn5⟩ := q_bd h
  obtain ⟨ht, h4, hl, h18, hTI, hTC, hTM⟩ := gR_mid h.1
  have hC6 : tC T ≤ 6 := hTI.2.2.2.2.1
  have ht19 : t ≤ 19 := by rcases ht with e | e <;> omega
  have lfx := ln_facts h.2.2.2.2.1 hc
  have hN : ln g c ≤ gW g := lfx.2.2.1
  obtain ⟨F, a1, a2⟩ := c_line h (q := q) hq hc
  have w1 : FQ q σ (WL σ q F (ln g c)) := (FQ.refl.w (c := q + 3) (by omega)).w (c := q) (by omega)
  have w2 : FQ q σ (rI (WL σ q F (ln g c)) (q + 6) (va_cpy ((WL σ q F (ln g c)).1 (t + 1)) ((WL σ q F (ln g c)).1 (q + 6)) 0 0 6)) := w1.w (by omega)
  obtain ⟨x, h1, h2, h3, h4', h5, h6⟩ := ow_for (body := fun s : Int32 × Wd => M_X4_play_L24 q t s.1 s.2) (Q := fun x => FQ q σ x ∧ gI x q 2 = nI (ln g c) ∧ (∀ i, i < ln g c → gI x (q + 3) i = nI (lf g c i)) ∧ (∀ i, i < ln g c → gI x (q + 4) i = outS T g (lf g c) i ∧ gI x (q + 5) i = chI (chS T g (lf g c) i)) ∧ (∀ i k, i ≤ ln g c → k < tC T → gI x (q + 6) (6 * i + k) = envS T g (lf g c) i k)) (fun i s => ∃ σi, s = (nI i, σi) ∧ FQ q σ σi ∧ gI σi q 2 = nI (ln g c) ∧ (∀ j, j < ln g c → gI σi (q + 3) j = nI (lf g c j)) ∧ (∀ j, j < i → gI σi (q + 4) j = outS T g (lf g c) j ∧ gI σi (q + 5) j = chI (chS T g (lf g c) j)) ∧ (∀ j k, j ≤ i → k < tC T → gI σi (q + 6) (6 * j + k) = envS T g (lf g c) j k)) (ln g c) (FU_big (by omega)) (fun i s hi ⟨σi, hs, hF, e2, e3, e4, e6⟩ => by
    subst hs
    show ow (M_X4_play_L24 q t (nI i) σi) _
    have v5 : (nI i + 1) * 6 = nI (6 * (i + 1)) := by rw [nI_1, show (6 : Int32) = nI 6 from rfl, pk_mul, Nat.mul_comm]
    have v56 : nI (6 * (i + 1)) - 6 = nI (6 * i) := by rw [show (6 : Int32) = nI 6 from rfl, pk_sub (by omega)]; congr 1
    have cc : (¬ (nI (6 * i)) < 0 ∧ ¬ nI (6 * (i + 1)) < 0 ∧ ¬ (6 : Int32) < 0 ∧ ix (nI (6 * i)) + ix (6 : Int32) ≤ 366 ∧ ix (nI (6 * (i + 1))) + ix (6 : Int32) ≤ 366) := by
      rw [ix_nI (show 6 * i < 2 ^ 31 by omega), ix_nI (show 6 * (i + 1) < 2 ^ 31 by omega), show ix (6 : Int32) = 6 from rfl]
      exact ⟨nI_n0 (by omega), nI_n0 (by omega), by decide, by omega, by omega⟩
    have hF2 : FQ q σ (rI σi (q + 6) (va_cpy (σi.1 (q + 6)) (σi.1 (q + 6)) (6 * i) (6 * (i + 1)) 6)) := hF.w (by omega)
    have hQ2 := h.kc (hF2.kc hq)
    have hfi := lfx.1 i hi
    have ci : ib (nI i) 60 := (ib_nI (by omega)).mpr (by omega)
    have xi : ix (nI i) = i := ix_nI (by omega)
    have g3 : gI (rI σi (q + 6) (va_cpy (σi.1 (q + 6)) (σi.1 (q + 6)) (6 * i) (6 * (i + 1)) 6)) (q + 3) i = nI (lf g c i) := (gI_rI_n (by omega)).trans (e3 i hi)
    obtain ⟨σ2, b1, b2, b3, b4, b5, b6⟩ := c_perform hQ2 (q := q + 1) (a := q + 6) (n := 366) (w := lf g c i) (base := 6 * (i + 1)) (e := envS T g (lf g c) i) (by omega) (by omega) (by omega) (by omega) hfi (by omega) (by decide) (fun k hk => by
      rw [gI_rI_s, pk_cpy_in (by omega) (by omega), show 6 * i + (6 * (i + 1) + k - 6 * (i + 1)) = 6 * i + k by omega]
      exact e6 i k (Nat.le_refl _) hk)
    unfold M_X4_play_L24
    rw [e2, if_neg (fun z => by have := (nI_leI (by omega) (by omega)).mp z; omega), v5, lt_eq, v56, chk_pos cc, ix_nI (show 6 * i < 2 ^ 31 by omega), ix_nI (show 6 * (i + 1) < 2 ^ 31 by omega), show ix (6 : Int32) = 6 from rfl, lt_eq, chk_pos ci, xi, g3, b1, bnd2_some, chk_pos ci, lt_eq, chk_pos ci, show gI (uI σ2 (q + 4) i (doS T g (lf g c i) (envS T g (lf g c) i)).1) (q + 1) 3 = chI (chS T g (lf g c) i) from by rw [gI_uI, if_neg (by omega)]; exact b4, lt_eq, lt_eq, nI_1]
    have hF3 : FQ q σ σ2 := hF2.trans ⟨b2, fun x hx => b3 x (by omega) (by omega) (by omega)⟩
    refine ow_some.mpr ⟨_, rfl, (hF3.w (c := q + 4) (by omega)).w (c := q + 5) (by omega), ?_, fun j hj => ?_, fun j hj => ?_, fun j k hj hk => ?_⟩
    · rw [gI_uI, if_neg (by omega), gI_uI, if_neg (by omega)]
      exact (congrFun (b3 q (by omega) (by omega) (by omega)) 2).trans ((gI_rI_n (by omega)).trans e2)
    · rw [gI_uI, if_neg (by omega), gI_uI, if_neg (by omega)]
      exact (congrFun (b3 (q + 3) (by omega) (by omega) (by omega)) j).trans ((gI_rI_n (by omega)).trans (e3 j hj))
    · rw [gI_uI, if_neg (by omega), gI_uI, gI_uI]
      by_cases hji : j = i
      · subst hji
        rw [if_pos ⟨rfl, rfl⟩, if_pos ⟨rfl, rfl⟩]
        exact ⟨rfl, rfl⟩
      · rw [if_neg (fun z => hji z.2), if_neg (fun z => hji z.2), gI_uI, if_neg (by omega)]
        have := e4 j (by omega)
        exact ⟨(congrFun (b3 (q + 4) (by omega) (by omega) (by omega)) j).trans ((gI_rI_n (by omega)).trans this.1), (congrFun (b3 (q + 5) (by omega) (by omega) (by omega)) j).trans ((gI_rI_n (by omega)).trans this.2)⟩
    · rw [gI_uI, if_neg (by omega), gI_uI, if_neg (by omega)]
      by_cases hji : j = i + 1
      · subst hji
        exact b5 k hk
      · rw [b6 _ (Or.inl (by omega)), gI_rI_s, pk_cpy_out (Or.inl (by omega))]
        exact e6 j k (by omega) hk) (fun s ⟨σi, hs, hF, e2, e3, e4, e6⟩ => by
    subst hs
    show ow (M_X4_play_L24 q t (nI (ln g c)) σi) _
    unfold M_X4_play_L24
    rw [e2, if_pos ((nI_leI (by omega) (by omega)).mpr (Nat.le_refl _))]
    exact ow_some.mpr ⟨hF, e2, e3, e4, e6⟩) 0 (nI 0, rI (WL σ q F (ln g c)) (q + 6) (va_cpy ((WL σ q F (ln g c)).1 (t + 1)) ((WL σ q F (ln g c)).1 (q + 6)) 0 0 6)) (Nat.zero_le _) ⟨_, rfl, w2, (gI_rI_n (by omega)).trans WL_n, fun j hj => (gI_rI_n (by omega)).trans (WL_f.trans (a2 j hj)), fun j hj => absurd hj (by omega), fun j k hj hk => by
      obtain rfl : j = 0 := by omega
      rw [gI_rI_s, cpy_at (by omega), show 6 * 0 + k = k by omega]
      exact (WL_o (Or.inl (by omega)) (by omega)).trans (hTC.2.1 k hk)⟩
  refine ⟨x, ?_, h2, h3, h4', h5, h6⟩
  unfold M_X4_play
  rw [a1, bnd1_some, chk_pos (by decide), lt_eq]
  show bnd1 (iter (fun s : Int32 × Wd => M_X4_play_L24 q t s.1 s.2) FU (nI 0, rI (WL σ q F (ln g c)) (q + 6) (va_cpy ((WL σ q F (ln g c)).1 (t + 1)) ((WL σ q F (ln g c)).1 (q + 6)) 0 0 6))) _ = _
  rw [h1]
  rfl
theorem m_play (h : Qd T t l g σ τ) {c m : Nat} (hc : c < 5) (hm : m ≤ ln g c) : ∃ τ1 τ', M_X9_fillsLog τ (nI c) = some τ1 ∧ gI τ1 0 45 = nI (ln g c) ∧ KQ τ τ1 ∧ M_X9_doesLog τ1 (nI m) = some τ' ∧ FD τ1 τ' ∧ KQ τ τ' ∧ (∀ k, k < tC T → gI τ' 29 k = envS T g (lf g c) m k) ∧ (m = ln g c → PlM T g c τ') ∧ (∀ x, x ≠ 0 → x ≠ 23 → x ≠ 24 → x ≠ 27 → x ≠ 29 → x ≠ 30 → x ≠ 31 → τ'.1 x = τ.1 x) := by
  obtain ⟨hW, hO, hP, hn5⟩ := q_bd h
  have lfx := ln_facts h.2.2.2.2.1 hc
  have hN : ln g c ≤ gW g := lfx.2.2.1
  obtain ⟨G, m1, m2⟩ := m_log h hc
  have m2 : ∀ i, i < ln g c → G i = nI (lf g c i) := m2
  obtain ⟨τ', b1, b2, b3, b4⟩ := m_doesLog (h.kq (KQ.refl.W27 (F := G) (n := ln g c))) (f := lf g c) (m := m) (by omega) (fun i hi => ⟨W27_27.trans (m2 i (by omega)), lfx.1 i (by omega)⟩)
  refine ⟨_, τ', m1, W27_45, KQ.refl.W27, b1, b2, (KQ.refl.W27).trans b2.kq, b4, fun e => ?_, fun x h1 h2 h3 h4 h5 h6 h7 => (b2.2.1 x h1 h2 h3 h5 h6 h7).trans (W27_r h1 h4)⟩
  subst e
  exact ⟨(b2.2.2 45 (by decide)).trans W27_45, fun i hi => (congrFun (b2.2.1 27 (by decide) (by decide) (by decide) (by decide) (by decide) (by decide)) i).trans (W27_27.trans (m2 i hi)), b3, b4⟩
theorem m_doesAll (h : Qd T t l g σ τ) {c : Nat} (hc : c < 5) : ∃ τ', M_X9_doesAll τ (nI c) = some τ' ∧ KQ τ τ' ∧ PlM T g c τ' ∧ (∀ x, x ≠ 0 → x ≠ 23 → x ≠ 24 → x ≠ 27 → x ≠ 29 → x ≠ 30 → x ≠ 31 → τ'.1 x = τ.1 x) := by
  obtain ⟨τ1, τ', a1, a2, a3, a4, a5, a6, a7, a8, a9⟩ := m_play h hc (Nat.le_refl _)
  refine ⟨τ', ?_, a6, a8 rfl, a9⟩
  unfold M_X9_doesAll
  rw [a1, bnd1_some, a2, a4, bnd1_some]
theorem c_behind {c0 q0 : Nat} (hp : PlC T g c0 q0 σ) {m k : Nat} (hN : ln g c0 ≤ 60) (hm : m ≤ ln g c0) (hk : k < tC T) (hC6 : tC T ≤ 6) : M_X4_cellBehind σ q0 (nI k) (nI m) = some (envS T g (lf g c0) m k) := by
  unfold M_X4_cellBehind
  rw [hp.1, if_neg (fun z => by have := (nI_ltI (by omega) (by omega)).mp z; omega), show nI m * 6 + nI k = nI (6 * m + k) by rw [show (6 : Int32) = nI 6 from rfl, pk_mul, nI_add, Nat.mul_comm], chk_pos ((ib_nI (by omega)).mpr (by omega)), ix_nI (by omega), hp.2.2.2 m k hm hk]
theorem c_behind2 {c0 q0 : Nat} (hp : PlC T g c0 q0 σ) {v : Int32} {k : Nat} (hN : ln g c0 ≤ 60) (hv : nI (ln g c0) < v) (hk : k < tC T) (hC6 : tC T ≤ 6) : M_X4_cellBehind σ q0 (nI k) v = some (envS T g (lf g c0) (ln g c0) k) := by
  unfold M_X4_cellBehind
  rw [hp.1, if_pos hv, show nI (ln g c0) * 6 + nI k = nI (6 * ln g c0 + k) by rw [show (6 : Int32) = nI 6 from rfl, pk_mul, nI_add, Nat.mul_comm], chk_pos ((ib_nI (by omega)).mpr (by omega)), ix_nI (by omega), hp.2.2.2 _ k (Nat.le_refl _) hk]
theorem c_last {c0 q0 : Nat} (hp : PlC T g c0 q0 σ) {k : Nat} (hN : ln g c0 ≤ 60) (hk : k < tC T) (hC6 : tC T ≤ 6) : M_X4_lastOf σ q0 (nI k) = some (envS T g (lf g c0) (ln g c0) k) := by
  unfold M_X4_lastOf
  rw [hp.1, c_behind hp hN (Nat.le_refl _) hk hC6, bnd1_some]
end PLAY
theorem do_out {T : Td} {g : Gs} {w : Nat} {e : Nat → Int32} (hI : TInv T) (hf : gF g w < tF T) : ((doS T g w e).1 = 0 ∨ (doS T g w e).1 = 1 ∨ (doS T g w e).1 = 2 ∨ (doS T g w e).1 = 3) ∧ (doS T g w e).2.1 ≤ tC T := by
  obtain ⟨y1, y2, y3, _⟩ := hI.2.2.2.2.2.2 (gF g w) hf
  cases h0 : evP T g w e 0 with
  | none =>
    have hd : doS T g w e = (3, 0, e) := by
      unfold doS
      rw [h0]
    rw [hd]
    exact ⟨Or.inr (Or.inr (Or.inr rfl)), Nat.zero_le _⟩
  | some a =>
    cases h1 : evP T g w e 1 with
    | none =>
      have hd : doS T g w e = (3, 0, e) := by
        unfold doS
        rw [h0, h1]
      rw [hd]
      exact ⟨Or.inr (Or.inr (Or.inr rfl)), Nat.zero_le _⟩
    | some b =>
      have hd : doS T g w e = if (if tL T (gF g w) = 1 then a < b else a = b) then (match evP T g w e 2 with | some v => ((0 : Int32), tT T (gF g w) + 1, upd e (tT T (gF g w)) v) | none => (3, 0, e)) else if tE T (gF g w) = 0 then (2, 0, e) else (match evP T g w e 3 with | some v => (1, tE T (gF g w), upd e (tE T (gF g w) - 1) v) | none => (3, 0, e)) := by
        unfold doS
        rw [h0, h1]
        rfl
      rw [hd]
      by_cases hc : (if tL T (gF g w) = 1 then a < b else a = b)
      · rw [if_pos hc]
        cases h2 : evP T g w e 2 with
        | none => exact ⟨Or.inr (Or.inr (Or.inr rfl)), Nat.zero_le _⟩
        | some v => exact ⟨Or.inl rfl, y2⟩
      · rw [if_neg hc]
        by_cases hE : tE T (gF g w) = 0
        · rw [if_pos hE]
          exact ⟨Or.inr (Or.inr (Or.inl rfl)), Nat.zero_le _⟩
        · rw [if_neg hE]
          cases h3 : evP T g w e 3 with
          | none => exact ⟨Or.inr (Or.inr (Or.inr rfl)), Nat.zero_le _⟩
          | some v => exact ⟨Or.inr (Or.inl rfl), y3⟩
theorem q_isCell {T : Td} {t l : Nat} {σ τ : Wd} (hT : RText T t l σ τ) (v : Int32) : (∃ c, c < tC T ∧ v = nI c ∧ M_X8_isCell σ v = some 1 ∧ M_X9_isCell τ v = some 1) ∨ (M_X8_isCell σ v = some 0 ∧ M_X9_isCell τ v = some 0) := by
  obtain ⟨ht, h4, hl, h18, hTI, hTC, hTM⟩ := gR_mid hT
  have hn : tC T ≤ 6 := hTI.2.2.2.2.1
  rcases bd_cases v (n := tC T) (by omega) with ⟨c, hc, rfl⟩ | ha
  · exact Or.inl ⟨c, hc, rfl, c_isCell_t ht h4 hTC.1.2.2.2.1 (by omega) hc, m_isCell_t hl h18 hTM.1.2.2.2.1 (by omega) hc⟩
  · exact Or.inr ⟨c_isCell_f ht h4 hTC.1.2.2.2.1 ha, m_isCell_f hl h18 hTM.1.2.2.2.1 (by omega) ha⟩
