/-! the model's log -/
def W27 (τ : Wd) (F : Nat → Int32) (n : Nat) : Wd := uI (rI τ 27 F) 0 45 (nI n)
theorem upd_upd {f : Nat → Int32} {k : Nat} {v w : Int32} : upd (upd f k v) k w = upd f k w := by
  funext x
  unfold upd
  by_cases h : x = k <;> simp [h]
theorem uI_uI {σ : Wd} {c k : Nat} {v w : Int32} : uI (uI σ c k v) c k w = uI σ c k w := by
  unfold uI
  rw [rI_at, rI_rI, upd_upd]
theorem rI_uI {σ : Wd} {c c' k : Nat} {f : Nat → Int32} {v : Int32} (h : c ≠ c') : rI (uI σ c k v) c' f = uI (rI σ c' f) c k v := by
  unfold uI
  rw [rI_comm h, rI_ne h]
theorem uI_W27 {τ : Wd} {F : Nat → Int32} {n i : Nat} {v : Int32} : uI (W27 τ F n) 27 i v = W27 τ (upd F i v) n := by
  have e : (W27 τ F n).1 27 = F := by unfold W27 uI; rw [rI_ne (by decide), rI_at]
  have : uI (W27 τ F n) 27 i v = rI (W27 τ F n) 27 (upd F i v) := by unfold uI; rw [e]
  rw [this]
  unfold W27
  rw [rI_uI (by decide), rI_rI]
theorem uI_W45 {τ : Wd} {F : Nat → Int32} {n m : Nat} : uI (W27 τ F n) 0 45 (nI m) = W27 τ F m := uI_uI
theorem W27_45 {τ : Wd} {F : Nat → Int32} {n : Nat} : gI (W27 τ F n) 0 45 = nI n := by unfold W27; rw [gI_uI, if_pos ⟨rfl, rfl⟩]
theorem W27_27 {τ : Wd} {F : Nat → Int32} {n i : Nat} : gI (W27 τ F n) 27 i = F i := by unfold W27; rw [gI_uI, if_neg (by omega), gI_rI, if_pos rfl]
theorem W27_o {τ : Wd} {F : Nat → Int32} {n c k : Nat} (h0 : c ≠ 0 ∨ k ≠ 45) (h1 : c ≠ 27) : gI (W27 τ F n) c k = gI τ c k := by unfold W27; rw [gI_uI, if_neg (by omega), gI_rI, if_neg h1]
theorem W27_r {τ : Wd} {F : Nat → Int32} {n c : Nat} (h0 : c ≠ 0) (h1 : c ≠ 27) : (W27 τ F n).1 c = τ.1 c := by unfold W27 uI; rw [rI_ne h0, rI_ne h1]
/-- what of the model is kept while it lays logs: its row too -/
def KQ (τ τ' : Wd) : Prop := KM τ τ' ∧ τ'.1 26 = τ.1 26 ∧ gI τ' 0 43 = gI τ 0 43
theorem KQ.refl {τ : Wd} : KQ τ τ := ⟨KM.refl, rfl, rfl⟩
theorem KQ.trans {a b c : Wd} (h : KQ a b) (k : KQ b c) : KQ a c := ⟨h.1.trans k.1, k.2.1.trans h.2.1, k.2.2.trans h.2.2⟩
theorem KQ.wI {τ τ' : Wd} {c : Nat} {f : Nat → Int32} (hc : pM c = false) (h0 : c ≠ 0) (h2 : c ≠ 26) (h : KQ τ τ') : KQ τ (rI τ' c f) := ⟨KM.wI hc h0 h.1, (rI_ne (fun z => h2 z.symm)).trans h.2.1, (gI_rI_n (fun z => h0 z.symm)).trans h.2.2⟩
theorem KQ.wO {τ τ' : Wd} {k : Nat} {v : Int32} (hk : ¬ (k = 2 ∨ k = 17 ∨ k = 18 ∨ k = 51)) (h3 : k ≠ 43) (h : KQ τ τ') : KQ τ (uI τ' 0 k v) := ⟨KM.wO hk h.1, (show (uI τ' 0 k v).1 26 = τ'.1 26 from rI_ne (by decide)).trans h.2.1, by rw [gI_uI, if_neg (fun z => h3 z.2.symm)]; exact h.2.2⟩
theorem KQ.uI {τ τ' : Wd} {c k : Nat} {v : Int32} (hc : pM c = false) (h0 : c ≠ 0) (h2 : c ≠ 26) (h : KQ τ τ') : KQ τ (uI τ' c k v) := KQ.wI hc h0 h2 h
theorem KQ.W27 {τ τ' : Wd} {F : Nat → Int32} {n : Nat} (h : KQ τ τ') : KQ τ (W27 τ' F n) := KQ.wO (by decide) (by decide) (KQ.wI rfl (by decide) (by decide) h)
theorem Qd.kq {T : Td} {t l : Nat} {g : Gs} {σ τ τ' : Wd} (h : Qd T t l g σ τ) (k : KQ τ τ') : Qd T t l g σ τ' := by
  obtain ⟨h1, h2, h3, h4, h5, h6⟩ := h
  exact ⟨RText_eq (σ := σ) (τ := τ) rfl (fun _ _ _ => rfl) (k.1.2.2 18 (by decide)) (fun c q1 q2 => k.1.1 c (by unfold pM; simp; omega)) h1, h2, h3, by rw [k.2.1]; exact h4, h5, trivial⟩
section LM
variable {T : Td} {t l : Nat} {g : Gs} {σ τ : Wd}
theorem m_ahead (h : Qd T t l g σ τ) {a b : Nat} (ha : a < gW g) (hb : b < gW g) : M_X9_isAhead τ (nI b) (nI a) = some (if ltr g a b then 1 else 0) := by
  obtain ⟨hW, hO, hP, hn⟩ := q_bd h
  have hI := h.2.2.2.2.1
  have Na := hI.2.2.2.2.2.2.2.2.2.1 a ha
  have Nb := hI.2.2.2.2.2.2.2.2.2.1 b hb
  obtain ⟨_, _, a2, a3⟩ := q_of h ha
  obtain ⟨_, _, b2, b3⟩ := q_of h hb
  unfold M_X9_isAhead
  rw [b3, bnd1_some, a3, bnd1_some, b2, bnd1_some, a2, bnd1_some]
  by_cases e1 : gS g b < gS g a
  · rw [if_pos ((nI_ltI (by omega) (by omega)).mpr e1), if_pos (show ltr g a b from Or.inl e1)]
  · rw [if_neg (fun z => e1 ((nI_ltI (by omega) (by omega)).mp z))]
    by_cases e : gS g a = gS g b
    · rw [if_neg (show ¬ nI (gS g b) ≠ nI (gS g a) from fun z => z (by rw [e]))]
      by_cases e2 : gN g a ≤ gN g b
      · rw [if_pos ((nI_leI (by omega) (by omega)).mpr e2), if_neg (show ¬ ltr g a b from fun z => by rcases z with z | z <;> omega)]
      · rw [if_neg (fun z => e2 ((nI_leI (by omega) (by omega)).mp z)), if_pos (show ltr g a b from Or.inr ⟨e, by omega⟩)]
    · rw [if_pos (show nI (gS g b) ≠ nI (gS g a) from fun z => e ((nI_eq (by omega) (by omega)).mp z).symm), if_neg (show ¬ ltr g a b from fun z => by rcases z with z | z <;> omega)]
theorem m_known (h : Qd T t l g σ τ) {c w : Nat} (hc : c < 5) (hw : w < gW g) : M_X9_isKnown τ (nI c) (nI w) = some (if knN g w (gK g c) = true then 1 else 0) := by
  obtain ⟨hW, hO, hP, hn⟩ := q_bd h
  have hI := h.2.2.2.2.1
  have hK := hI.2.2.1 c hc
  have hinj := hI.2.2.2.2.2.2.2.2.1
  obtain ⟨r, p1, p2, p3⟩ := q_place h hw
  unfold M_X9_isKnown
  rw [p2, bnd1_some, (q_known h hc).2, bnd1_some, bnd1_some]
  rcases p3 with ⟨i, hi, he, rfl⟩ | ⟨hno, rfl⟩
  · rw [if_neg (nI_n0 (by omega))]
    by_cases hq : gK g c ≤ i
    · rw [if_pos ((nI_leI (by omega) (by omega)).mpr hq), if_neg (fun z => by
        obtain ⟨j, hj, hje⟩ := (knN_iff _).mp z
        have := hinj j i (by omega) hi (by rw [hje, he])
        omega)]
    · rw [if_neg (fun z => hq ((nI_leI (by omega) (by omega)).mp z)), if_pos ((knN_iff _).mpr ⟨i, by omega, he⟩)]
  · rw [if_pos m2_neg, if_neg (fun z => by
      obtain ⟨j, hj, hje⟩ := (knN_iff _).mp z
      exact hno j (by omega) hje)]
theorem m_logA (h : Qd T t l g σ τ) {c k : Nat} (hk : k ≤ gO g) : ∃ F, iter (fun s : Int32 × Wd => M_X9_fillsLog_L14 (nI c) (nI k) s.1 s.2) FU ((0 : Int32), uI τ 0 45 0) = some (W27 τ F k) ∧ ∀ i, i < k → F i = nI (gD g i) := by
  obtain ⟨hW, hO, hP, hn⟩ := q_bd h
  have e0 : uI τ 0 45 0 = W27 τ (τ.1 27) 0 := by unfold W27; rw [rI_self]; rfl
  obtain ⟨r, h1, F, h2, h3⟩ := ow_for (body := fun s : Int32 × Wd => M_X9_fillsLog_L14 (nI c) (nI k) s.1 s.2) (Q := fun r => ∃ F, r = W27 τ F k ∧ ∀ i, i < k → F i = nI (gD g i)) (fun i s => ∃ F, s = (nI i, W27 τ F i) ∧ ∀ j, j < i → F j = nI (gD g j)) k (FU_big (by omega)) (fun i s hi ⟨F, hs, hf⟩ => by
    subst hs
    show ow (M_X9_fillsLog_L14 (nI c) (nI k) (nI i) (W27 τ F i)) _
    unfold M_X9_fillsLog_L14
    have hA : gI τ 26 (410 + i) = nI (gD g i) := (h.2.2.2.1.2.2.2.2.2.1 i (by omega)).1
    rw [if_neg (fun z => by have := (nI_leI (by omega) (by omega)).mp z; omega), show (410 : Int32) + nI i = nI (410 + i) from nI_add 410 i, chk_pos ((ib_nI (by omega)).mpr (by omega)), W27_45, chk_pos ((ib_nI (by omega)).mpr (by omega)), ix_nI (by omega), ix_nI (by omega)]
    simp only [lt_eq]
    rw [W27_o (by omega) (by decide), hA, uI_W27, W27_45, nI_1, uI_W45]
    refine ow_some.mpr ⟨_, rfl, fun j hj => ?_⟩
    by_cases hji : j = i
    · subst hji; exact pk_us
    · rw [pk_un hji]; exact hf j (by omega)) (fun s ⟨F, hs, hf⟩ => by
    subst hs
    show ow (M_X9_fillsLog_L14 (nI c) (nI k) (nI k) (W27 τ F k)) _
    unfold M_X9_fillsLog_L14
    rw [if_pos ((nI_leI (by omega) (by omega)).mpr (Nat.le_refl _))]
    exact ow_some.mpr ⟨F, rfl, hf⟩) 0 ((0 : Int32), uI τ 0 45 0) (Nat.zero_le _) ⟨τ.1 27, by rw [e0]; rfl, fun j hj => absurd hj (by omega)⟩
  exact ⟨F, by rw [h1, h2], h3⟩
theorem m_ins (h : Qd T t l g σ τ) {k n w : Nat} {c : Int32} {f : Nat → Nat} {F : Nat → Int32} (hkb : k < 2 ^ 31) (hn : n < 60) (hw : w < gW g) (hf : ∀ i, i < n → f i < gW g ∧ F i = nI (f i)) : ∃ F', iter (fun s : Int32 × Wd => M_X9_fillsLog_L93 c (nI k) (nI w) s.1 s.2) FU (nI n, W27 τ F n) = some (nI (poN g f k w n), W27 τ F' n) ∧ (∀ i, i < poN g f k w n → F' i = nI (f i)) ∧ (∀ i, poN g f k w n < i → i ≤ n → F' i = nI (f (i - 1))) := by
  obtain ⟨r, h1, F', h2, h3, h4⟩ := ow_iter (body := fun s : Int32 × Wd => M_X9_fillsLog_L93 c (nI k) (nI w) s.1 s.2) (Q := fun r => ∃ F', r = (nI (poN g f k w n), W27 τ F' n) ∧ (∀ i, i < poN g f k w n → F' i = nI (f i)) ∧ (∀ i, poN g f k w n < i → i ≤ n → F' i = nI (f (i - 1)))) (fun m s => m ≤ n ∧ ∃ F', s = (nI m, W27 τ F' n) ∧ poN g f k w n = poN g f k w m ∧ (∀ i, i < m → F' i = nI (f i)) ∧ (∀ i, m < i → i ≤ n → F' i = nI (f (i - 1)))) (fun m s ⟨hm, F', hs, hp, q1, q2⟩ => by
    subst hs
    show ow (M_X9_fillsLog_L93 c (nI k) (nI w) (nI m) (W27 τ F' n)) _
    unfold M_X9_fillsLog_L93
    by_cases h0 : m ≤ k
    · rw [if_pos ((nI_leI (by omega) hkb).mpr h0)]
      have e : poN g f k w m = m := by
        cases m with
        | zero => rfl
        | succ p => exact if_neg (fun z => absurd z.1 (by omega))
      rw [e] at hp
      exact ow_some.mpr ⟨F', by rw [hp], by rw [hp]; exact q1, by rw [hp]; exact q2⟩
    · obtain ⟨p, rfl⟩ : ∃ p, m = p + 1 := ⟨m - 1, by omega⟩
      have hp1 := hf p (by omega)
      have e : poN g f k w (p + 1) = if k < p + 1 ∧ ltr g (f p) w then poN g f k w p else p + 1 := rfl
      rw [if_neg (fun z => h0 ((nI_leI (by omega) hkb).mp z)), nI_pred1 (by omega), Nat.add_sub_cancel, chk_pos ((ib_nI (by omega)).mpr (by omega)), ix_nI (by omega), W27_27, q1 p (by omega), m_ahead (h.kq KQ.refl.W27) hp1.1 hw, bnd1_some]
      by_cases hl : ltr g (f p) w
      · rw [if_pos hl, if_neg n10, chk_pos ((ib_nI (by omega)).mpr (by omega)), chk_pos ((ib_nI (by omega)).mpr (by omega)), ix_nI (by omega)]
        simp only [lt_eq]
        rw [uI_W27, nI_m1 (by omega), Nat.add_sub_cancel]
        refine ow_some.mpr ⟨p, by omega, by omega, _, rfl, by rw [hp, e, if_pos ⟨by omega, hl⟩], fun i hi => ?_, fun i h5 h6 => ?_⟩
        · rw [pk_un (by omega)]; exact q1 i (by omega)
        · by_cases hip : i = p + 1
          · subst hip
            rw [pk_us, Nat.add_sub_cancel]
          · rw [pk_un hip]; exact q2 i (by omega) h6
      · rw [if_neg hl, if_pos rfl]
        rw [if_neg (fun z => hl z.2)] at e
        rw [e] at hp
        exact ow_some.mpr ⟨F', by rw [hp], by rw [hp]; exact q1, by rw [hp]; exact q2⟩) FU n (nI n, W27 τ F n) (FU_big (by omega)) ⟨Nat.le_refl _, F, rfl, rfl, fun i hi => (hf i hi).2, fun i h5 h6 => by omega⟩
  exact ⟨F', by rw [h1, h2], h3, h4⟩
/-- the log of a copy -/
abbrev hsP (g : Gs) (c : Nat) : Nat → Bool := fun w => decide (gA g c w = 1)
abbrev lgR (g : Gs) (P : Nat → Bool) (k : Nat) : Nat → Bool := fun w => P w && !knN g w k
def lgf (g : Gs) (P : Nat → Bool) (k : Nat) : Nat → Nat := (lgN g (lgR g P k) k (gW g)).1
def lgn (g : Gs) (P : Nat → Bool) (k : Nat) : Nat := (lgN g (lgR g P k) k (gW g)).2
theorem m_log (h : Qd T t l g σ τ) {c : Nat} (hc : c < 5) : ∃ F, M_X9_fillsLog τ (nI c) = some (W27 τ F (lgn g (hsP g c) (gK g c))) ∧ ∀ i, i < lgn g (hsP g c) (gK g c) → F i = nI (lgf g (hsP g c) (gK g c) i) := by
  obtain ⟨hW, hO, hP, hn⟩ := q_bd h
  have hI := h.2.2.2.2.1
  have hk : gK g c ≤ gO g := hI.2.2.1 c hc
  have hA01 := hI.2.2.2.2.1
  have inv : ∀ W, W ≤ gW g → _ := fun W hw => lg_all (P := hsP g c) hI hk hw (lg_inv (R := lgR g (hsP g c) (gK g c)) (g := g) (k := gK g c) W)
  obtain ⟨F1, e1, f1⟩ := m_logA (c := c) h hk
  obtain ⟨r, h1, F', h2, h3⟩ := ow_for (body := fun s : Int32 × Wd => M_X9_fillsLog_L56 (nI c) (nI (gK g c)) s.1 s.2) (Q := fun r => ∃ F, r = W27 τ F (lgn g (hsP g c) (gK g c)) ∧ ∀ i, i < lgn g (hsP g c) (gK g c) → F i = nI (lgf g (hsP g c) (gK g c) i)) (fun w s => ∃ F', s = (nI w, W27 τ F' (lgN g (lgR g (hsP g c) (gK g c)) (gK g c) w).2) ∧ ∀ i, i < (lgN g (lgR g (hsP g c) (gK g c)) (gK g c) w).2 → F' i = nI ((lgN g (lgR g (hsP g c) (gK g c)) (gK g c) w).1 i)) (gW g) (FU_big (by omega)) (fun w s hw ⟨F', hs, hf⟩ => by
    subst hs
    have i1 := inv w (by omega)
    have i2 := inv (w + 1) (by omega)
    have e : lgN g (lgR g (hsP g c) (gK g c)) (gK g c) (w + 1) = if (decide (gA g c w = 1) && !knN g w (gK g c)) = true then (inN (lgN g (lgR g (hsP g c) (gK g c)) (gK g c) w).1 (poN g (lgN g (lgR g (hsP g c) (gK g c)) (gK g c) w).1 (gK g c) w (lgN g (lgR g (hsP g c) (gK g c)) (gK g c) w).2) w, (lgN g (lgR g (hsP g c) (gK g c)) (gK g c) w).2 + 1) else lgN g (lgR g (hsP g c) (gK g c)) (gK g c) w := rfl
    show ow (M_X9_fillsLog_L56 (nI c) (nI (gK g c)) (nI w) (W27 τ F' (lgN g (lgR g (hsP g c) (gK g c)) (gK g c) w).2)) _
    rw [e] at i2 ⊢
    unfold M_X9_fillsLog_L56
    have h' := h.kq (KQ.refl.W27 (F := F') (n := (lgN g (lgR g (hsP g c) (gK g c)) (gK g c) w).2))
    rw [chk_pos (by decide), show gI (W27 τ F' (lgN g (lgR g (hsP g c) (gK g c)) (gK g c) w).2) 26 (ix (0 : Int32)) = nI (gW g) from h'.2.2.2.1.1.1, if_neg (fun z => by have := (nI_leI (by omega) (by omega)).mp z; omega), q_have h' hc (by omega), bnd1_some, m_known h' hc hw, bnd1_some]
    by_cases hA : gA g c w = 1
    · rw [if_pos hA, if_neg n10]
      by_cases hk2 : knN g w (gK g c) = true
      · rw [if_pos hk2, if_neg n10]
        rw [if_neg (show ¬ (decide (gA g c w = 1) && !knN g w (gK g c)) = true by rw [hk2]; simp)]
        simp only [lt_eq]
        rw [nI_1]
        exact ow_some.mpr ⟨F', rfl, hf⟩
      · rw [if_neg hk2, if_pos rfl]
        have hR : (decide (gA g c w = 1) && !knN g w (gK g c)) = true := by
          rw [Bool.and_eq_true]
          exact ⟨by simpa using hA, by simpa using hk2⟩
        rw [if_pos hR] at i2 ⊢
        have hN : (lgN g (lgR g (hsP g c) (gK g c)) (gK g c) w).2 + 1 ≤ gW g := i2.2.2
        simp only [lt_eq]
        rw [W27_45]
        obtain ⟨F2, g1, g2, g3⟩ := m_ins (k := gK g c) (c := nI c) h (by omega) (by omega) hw (fun i hi => ⟨i1.1 i hi, hf i hi⟩)
        have hp := poN_le (g := g) (f := (lgN g (lgR g (hsP g c) (gK g c)) (gK g c) w).1) (k := gK g c) (w := w) (lgN g (lgR g (hsP g c) (gK g c)) (gK g c) w).2
        rw [g1, bnd1_some]
        show ow (M_X9_fillsLog_J138 (W27 τ F2 (lgN g (lgR g (hsP g c) (gK g c)) (gK g c) w).2) (nI c) (nI (gK g c)) (nI w) (nI (poN g (lgN g (lgR g (hsP g c) (gK g c)) (gK g c) w).1 (gK g c) w (lgN g (lgR g (hsP g c) (gK g c)) (gK g c) w).2))) _
        unfold M_X9_fillsLog_J138
        rw [chk_pos ((ib_nI (by omega)).mpr (by omega)), ix_nI (by omega)]
        simp only [lt_eq]
        rw [uI_W27, W27_45, nI_1, nI_1, uI_W45]
        refine ow_some.mpr ⟨_, rfl, fun i hi => ?_⟩
        have hi : i < (lgN g (lgR g (hsP g c) (gK g c)) (gK g c) w).2 + 1 := hi
        show upd F2 _ (nI w) i = nI (inN _ _ w i)
        rcases Nat.lt_trichotomy i (poN g (lgN g (lgR g (hsP g c) (gK g c)) (gK g c) w).1 (gK g c) w (lgN g (lgR g (hsP g c) (gK g c)) (gK g c) w).2) with q | q | q
        · rw [inN_a q, pk_un (by omega)]; exact g2 i q
        · rw [q, inN_b, pk_us]
        · rw [inN_c q, pk_un (by omega)]; exact g3 i q (by omega)
    · rw [if_neg hA, if_pos rfl]
      rw [if_neg (show ¬ (decide (gA g c w = 1) && !knN g w (gK g c)) = true by simp [hA])]
      simp only [lt_eq]
      rw [nI_1]
      exact ow_some.mpr ⟨F', rfl, hf⟩) (fun s ⟨F', hs, hf⟩ => by
    subst hs
    show ow (M_X9_fillsLog_L56 (nI c) (nI (gK g c)) (nI (gW g)) (W27 τ F' (lgN g (lgR g (hsP g c) (gK g c)) (gK g c) (gW g)).2)) _
    have h' := h.kq (KQ.refl.W27 (F := F') (n := (lgN g (lgR g (hsP g c) (gK g c)) (gK g c) (gW g)).2))
    unfold M_X9_fillsLog_L56
    rw [chk_pos (by decide), show gI (W27 τ F' (lgN g (lgR g (hsP g c) (gK g c)) (gK g c) (gW g)).2) 26 (ix (0 : Int32)) = nI (gW g) from h'.2.2.2.1.1.1, if_pos ((nI_leI (by omega) (by omega)).mpr (Nat.le_refl _))]
    exact ow_some.mpr ⟨F', rfl, hf⟩) 0 ((0 : Int32), W27 τ F1 (gK g c)) (Nat.zero_le _) ⟨F1, rfl, f1⟩
  refine ⟨F', ?_, h3⟩
  unfold M_X9_fillsLog
  rw [(q_known h hc).2, bnd1_some]
  simp only [lt_eq]
  rw [e1, bnd1_some]
  show bnd1 (iter (fun s : Int32 × Wd => M_X9_fillsLog_L56 (nI c) (nI (gK g c)) s.1 s.2) FU ((0 : Int32), W27 τ F1 (gK g c))) _ = _
  rw [h1, h2]
  rfl
end LM
