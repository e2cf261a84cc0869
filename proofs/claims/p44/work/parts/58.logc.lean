/-! the class's log -/
theorem rI_comm {σ : Wd} {c c' : Nat} {f f' : Nat → Int32} (h : c ≠ c') : rI (rI σ c f) c' f' = rI (rI σ c' f') c f := by
  unfold rI
  congr 1
  funext a
  show (if a = c' then f' else if a = c then f else σ.1 a) = (if a = c then f else if a = c' then f' else σ.1 a)
  by_cases h1 : a = c'
  · subst h1
    rw [if_pos rfl, if_neg (fun z => h z.symm), if_pos rfl]
  · rw [if_neg h1]
    by_cases h2 : a = c
    · rw [if_pos h2, if_pos h2]
    · rw [if_neg h2, if_neg h2, if_neg h1]
theorem rI_ne {σ : Wd} {c c' : Nat} {f : Nat → Int32} (h : c' ≠ c) : (rI σ c f).1 c' = σ.1 c' := by unfold rI; simp [h]
theorem gI_rI_s {σ : Wd} {c k : Nat} {f : Nat → Int32} : gI (rI σ c f) c k = f k := by rw [gI_rI, if_pos rfl]
theorem gI_rI_n {σ : Wd} {c c' k : Nat} {f : Nat → Int32} (h : c' ≠ c) : gI (rI σ c f) c' k = gI σ c' k := by rw [gI_rI, if_neg h]
theorem Qd.rI {T : Td} {t l : Nat} {g : Gs} {σ τ : Wd} {a : Nat} {f : Nat → Int32} (h : Qd T t l g σ τ) (ha : 34 < a) : Qd T t l g (rI σ a f) τ := by
  obtain ⟨h1, h2, h3, h4⟩ := h
  have ht : t ≤ 19 := by rcases h1.1 with e | e <;> omega
  refine ⟨RText_eq (σ := σ) (τ := τ) rfl (fun c q1 q2 => rI_ne (by omega)) rfl (fun _ _ _ => rfl) h1, h2, CA_eq (fun j q1 q2 => rI_ne (by omega)) h3, h4⟩
theorem bit_one : ∀ d : Fin 60, ∀ w : Fin 64, ((1 : Int64) <<< ((nI d.val).toInt64 &&& 63)).toBitVec.getLsbD w.val = decide (w.val = d.val) := by decide +kernel
theorem bit_m1 : ∀ w : Fin 64, (-1 : Int64).toBitVec.getLsbD w.val = true := by decide +kernel
theorem bit_clr {x : Int64} {d w : Nat} (hd : d < 60) (hw : w < 64) : (x &&& (((1 : Int64) <<< ((nI d).toInt64 &&& 63)) ^^^ (-1 : Int64))).toBitVec.getLsbD w = (x.toBitVec.getLsbD w && !decide (w = d)) := by
  have e1 : ((1 : Int64) <<< ((nI d).toInt64 &&& 63)).toBitVec.getLsbD w = decide (w = d) := bit_one ⟨d, hd⟩ ⟨w, hw⟩
  have e2 : (-1 : Int64).toBitVec.getLsbD w = true := bit_m1 ⟨w, hw⟩
  rw [Int64.toBitVec_and, BitVec.getLsbD_and, Int64.toBitVec_xor, BitVec.getLsbD_xor, e1, e2, Bool.xor_true]
theorem bit_set {x : Int64} {d w : Nat} (hd : d < 60) (hw : w < 64) : (x ||| ((1 : Int64) <<< ((nI d).toInt64 &&& 63))).toBitVec.getLsbD w = (x.toBitVec.getLsbD w || decide (w = d)) := by
  have e1 : ((1 : Int64) <<< ((nI d).toInt64 &&& 63)).toBitVec.getLsbD w = decide (w = d) := bit_one ⟨d, hd⟩ ⟨w, hw⟩
  rw [Int64.toBitVec_or, BitVec.getLsbD_or, e1]
theorem sh_bitN {x : Int64} {w : Nat} {b : Bool} (hw : w < 60) (hb : x.toBitVec.getLsbD w = b) : lg_cmp ((x >>> ((nI w).toInt64 &&& 63)) &&& 1) 0 = 0 ↔ b = false := by rw [sh_bit hw, hb]
section LC
variable {T : Td} {t l : Nat} {g : Gs} {σ τ : Wd}
theorem c_later (h : Qd T t l g σ τ) {a b : Nat} (ha : a < gW g) (hb : b < gW g) : M_X1_isLater σ (nI a) (nI b) = some (if ltr g a b then 1 else 0) := by
  obtain ⟨hW, hO, hP, hn⟩ := q_bd h
  have hI := h.2.2.2.2.1
  have Na := hI.2.2.2.2.2.2.2.2.2.1 a ha
  have Nb := hI.2.2.2.2.2.2.2.2.2.1 b hb
  have ca : ib (nI a) 60 := (ib_nI (by omega)).mpr (by omega)
  have cb : ib (nI b) 60 := (ib_nI (by omega)).mpr (by omega)
  have sa : gI σ 33 (ix (nI a)) = nI (gS g a) := by rw [ix_nI (by omega)]; exact (q_arr h ha).2.2.2
  have sb : gI σ 33 (ix (nI b)) = nI (gS g b) := by rw [ix_nI (by omega)]; exact (q_arr h hb).2.2.2
  have na : gI σ 32 (ix (nI a)) = nI (gN g a) := by rw [ix_nI (by omega)]; exact (q_arr h ha).2.2.1
  have nb : gI σ 32 (ix (nI b)) = nI (gN g b) := by rw [ix_nI (by omega)]; exact (q_arr h hb).2.2.1
  unfold M_X1_isLater
  rw [sa, sb, na, nb]
  simp only [chk_pos ca, chk_pos cb]
  by_cases e : gS g a = gS g b
  · rw [if_pos (show nI (gS g a) = nI (gS g b) by rw [e])]
    by_cases e2 : gN g a ≤ gN g b
    · rw [if_pos ((nI_leI (by omega) (by omega)).mpr e2), if_neg (show ¬ ltr g a b from fun z => by rcases z with z | z <;> omega)]
    · rw [if_neg (fun z => e2 ((nI_leI (by omega) (by omega)).mp z)), if_pos (show ltr g a b from Or.inr ⟨e, by omega⟩)]
  · rw [if_neg (fun z => e ((nI_eq (by omega) (by omega)).mp z))]
    by_cases e2 : gS g a ≤ gS g b
    · rw [if_pos ((nI_leI (by omega) (by omega)).mpr e2), if_neg (show ¬ ltr g a b from fun z => by rcases z with z | z <;> omega)]
    · rw [if_neg (fun z => e2 ((nI_leI (by omega) (by omega)).mp z)), if_pos (show ltr g a b from Or.inl (by omega))]
theorem c_layA (h : Qd T t l g σ τ) {a k : Nat} {x : Int64} {P : Nat → Bool} (ha : 34 < a) (hk : k ≤ gO g) (hx : ∀ w, w < 60 → x.toBitVec.getLsbD w = P w) : ∃ y f, iter (fun s : Int64 × Int32 × Wd => M_X1_layLog_L6 a 60 (nI k) s.1 s.2.1 s.2.2) FU (x, (0 : Int32), σ) = some (y, nI k, rI σ a f) ∧ (∀ i, i < k → f i = nI (gD g i)) ∧ ∀ w, w < 60 → y.toBitVec.getLsbD w = (P w && !knN g w k) := by
  obtain ⟨hW, hO, hP, hn⟩ := q_bd h
  have hI := h.2.2.2.2.1
  have hD := hI.2.2.2.2.2.2.2.1
  obtain ⟨r, h1, y, f, h2, h3, h4⟩ := ow_for (body := fun s : Int64 × Int32 × Wd => M_X1_layLog_L6 a 60 (nI k) s.1 s.2.1 s.2.2) (Q := fun r => ∃ y f, r = (y, nI k, rI σ a f) ∧ (∀ i, i < k → f i = nI (gD g i)) ∧ ∀ w, w < 60 → y.toBitVec.getLsbD w = (P w && !knN g w k)) (fun i s => ∃ y f, s = (y, nI i, rI σ a f) ∧ (∀ j, j < i → f j = nI (gD g j)) ∧ ∀ w, w < 60 → y.toBitVec.getLsbD w = (P w && !knN g w i)) k (FU_big (by omega)) (fun i s hi ⟨y, f, hs, hf, hy⟩ => by
    subst hs
    show ow (M_X1_layLog_L6 a 60 (nI k) y (nI i) (rI σ a f)) _
    unfold M_X1_layLog_L6
    have hDi := hD i (by omega)
    have hA : gI σ 34 i = nI (gD g i) := h.2.2.1.2 i (by omega)
    rw [if_neg (fun z => by have := (nI_leI (by omega) (by omega)).mp z; omega), if_neg (show ¬ (60 : Int32) ≤ nI i from fun z => by have := (nI_leI (a := 60) (by decide) (by omega)).mp z; omega), chk_pos ((ib_nI (by omega)).mpr (by omega)), chk_pos ((ib_nI (by omega)).mpr (by omega)), ix_nI (by omega)]
    simp only [lt_eq]
    rw [gI_rI_n (show 34 ≠ a by omega), hA, uI_rI, chk_pos ((ib_nI (by omega)).mpr (by omega)), gI_rI_n (show 34 ≠ a by omega), hA, nI_1]
    refine ow_some.mpr ⟨_, _, rfl, fun j hj => ?_, fun w hw => ?_⟩
    · by_cases hji : j = i
      · subst hji; exact pk_us
      · rw [pk_un hji]; exact hf j (by omega)
    · rw [bit_clr (by omega) (by omega), hy w hw]
      show (P w && !knN g w i && !decide (w = gD g i)) = (P w && !(knN g w i || decide (gD g i = w)))
      rw [Bool.not_or, Bool.and_assoc, show decide (w = gD g i) = decide (gD g i = w) from by congr 1; exact propext ⟨fun z => z.symm, fun z => z.symm⟩]) (fun s ⟨y, f, hs, hf, hy⟩ => by
    subst hs
    show ow (M_X1_layLog_L6 a 60 (nI k) y (nI k) (rI σ a f)) _
    unfold M_X1_layLog_L6
    rw [if_pos ((nI_leI (by omega) (by omega)).mpr (Nat.le_refl _))]
    exact ow_some.mpr ⟨y, f, rfl, hf, hy⟩) 0 (x, (0 : Int32), σ) (Nat.zero_le _) ⟨x, σ.1 a, by rw [rI_self]; rfl, fun j hj => absurd hj (by omega), fun w hw => by rw [hx w hw]; show P w = (P w && !false); rw [Bool.not_false, Bool.and_true]⟩
  exact ⟨y, f, by rw [h1, h2], h3, h4⟩
theorem c_ins (h : Qd T t l g σ τ) {a k n w : Nat} {f : Nat → Nat} {F : Nat → Int32} {x : Int64} (ha : 34 < a) (hkb : k < 2 ^ 31) (hn : n < 60) (hw : w < gW g) (hf : ∀ i, i < n → f i < gW g ∧ F i = nI (f i)) : ∃ F', iter (fun s : Int32 × Wd => M_X1_layLog_L90 a 60 (nI k) x (nI n) (nI w) s.1 s.2) FU (nI n, rI σ a F) = some (nI (poN g f k w n), rI σ a F') ∧ (∀ i, i < poN g f k w n → F' i = nI (f i)) ∧ (∀ i, poN g f k w n < i → i ≤ n → F' i = nI (f (i - 1))) := by
  obtain ⟨r, h1, F', h2, h3, h4⟩ := ow_iter (body := fun s : Int32 × Wd => M_X1_layLog_L90 a 60 (nI k) x (nI n) (nI w) s.1 s.2) (Q := fun r => ∃ F', r = (nI (poN g f k w n), rI σ a F') ∧ (∀ i, i < poN g f k w n → F' i = nI (f i)) ∧ (∀ i, poN g f k w n < i → i ≤ n → F' i = nI (f (i - 1)))) (fun m s => m ≤ n ∧ ∃ F', s = (nI m, rI σ a F') ∧ poN g f k w n = poN g f k w m ∧ (∀ i, i < m → F' i = nI (f i)) ∧ (∀ i, m < i → i ≤ n → F' i = nI (f (i - 1)))) (fun m s ⟨hm, F', hs, hp, q1, q2⟩ => by
    subst hs
    show ow (M_X1_layLog_L90 a 60 (nI k) x (nI n) (nI w) (nI m) (rI σ a F')) _
    unfold M_X1_layLog_L90
    by_cases h0 : m ≤ k
    · rw [if_pos ((nI_leI (by omega) hkb).mpr h0)]
      have e : poN g f k w m = m := by
        cases m with
        | zero => rfl
        | succ p => exact if_neg (fun z => absurd z.1 (by omega))
      rw [e] at hp
      exact ow_some.mpr ⟨F', by rw [hp], by rw [hp]; exact q1, by rw [hp]; exact q2⟩
    · obtain ⟨p, rfl⟩ : ∃ p, m = p + 1 := ⟨m - 1, by omega⟩
      have hp1 := hf p (by omega)
      have e : poN g f k w (p + 1) = if k < p + 1 ∧ ltr g (f p) w then poN g f k w p else p + 1 := rfl
      rw [if_neg (fun z => h0 ((nI_leI (by omega) hkb).mp z)), nI_pred1 (by omega), Nat.add_sub_cancel, chk_pos ((ib_nI (by omega)).mpr (by omega)), ix_nI (by omega), gI_rI_s, q1 p (by omega), c_later (h.rI ha) hp1.1 hw, bnd1_some]
      by_cases hl : ltr g (f p) w
      · rw [if_pos hl, if_neg n10, chk_pos ((ib_nI (by omega)).mpr (by omega)), chk_pos ((ib_nI (by omega)).mpr (by omega)), ix_nI (by omega)]
        simp only [lt_eq]
        rw [uI_rI, nI_m1 (by omega), Nat.add_sub_cancel]
        refine ow_some.mpr ⟨p, by omega, by omega, _, rfl, by rw [hp, e, if_pos ⟨by omega, hl⟩], fun i hi => ?_, fun i h5 h6 => ?_⟩
        · rw [pk_un (by omega)]; exact q1 i (by omega)
        · by_cases hip : i = p + 1
          · subst hip
            rw [pk_us, Nat.add_sub_cancel]
          · rw [pk_un hip]; exact q2 i (by omega) h6
      · rw [if_neg hl, if_pos rfl]
        rw [if_neg (fun z => hl z.2)] at e
        rw [e] at hp
        exact ow_some.mpr ⟨F', by rw [hp], by rw [hp]; exact q1, by rw [hp]; exact q2⟩) FU n (nI n, rI σ a F) (FU_big (by omega)) ⟨Nat.le_refl _, F, rfl, rfl, fun i hi => (hf i hi).2, fun i h5 h6 => by omega⟩
  exact ⟨F', by rw [h1, h2], h3, h4⟩
theorem c_layB (h : Qd T t l g σ τ) {a k : Nat} {y : Int64} {F : Nat → Int32} {P : Nat → Bool} (ha : 34 < a) (hk : k ≤ gO g) (hF : ∀ i, i < k → F i = nI (gD g i)) (hy : ∀ w, w < 60 → y.toBitVec.getLsbD w = (P w && !knN g w k)) : ∃ F', M_X1_layLog_J55 a 60 (rI σ a F) (nI k) y (nI k) = some (nI (lgN g (fun w => P w && !knN g w k) k (gW g)).2, rI σ a F') ∧ ∀ i, i < (lgN g (fun w => P w && !knN g w k) k (gW g)).2 → F' i = nI ((lgN g (fun w => P w && !knN g w k) k (gW g)).1 i) := by
  obtain ⟨hW, hO, hP, hn⟩ := q_bd h
  have hI := h.2.2.2.2.1
  have inv : ∀ W, W ≤ gW g → _ := fun W hw => lg_all (P := P) hI hk hw (lg_inv (R := fun w => P w && !knN g w k) (g := g) (k := k) W)
  obtain ⟨r, h1, F', h2, h3⟩ := ow_for (body := fun s : Int32 × Int32 × Wd => M_X1_layLog_L58 a 60 (nI k) y s.1 s.2.1 s.2.2) (Q := fun r => ∃ F', r = (nI (lgN g (fun w => P w && !knN g w k) k (gW g)).2, rI σ a F') ∧ ∀ i, i < (lgN g (fun w => P w && !knN g w k) k (gW g)).2 → F' i = nI ((lgN g (fun w => P w && !knN g w k) k (gW g)).1 i)) (fun w s => ∃ F', s = (nI (lgN g (fun w => P w && !knN g w k) k w).2, nI w, rI σ a F') ∧ ∀ i, i < (lgN g (fun w => P w && !knN g w k) k w).2 → F' i = nI ((lgN g (fun w => P w && !knN g w k) k w).1 i)) (gW g) (FU_big (by omega)) (fun w s hw ⟨F', hs, hf⟩ => by
    subst hs
    have i1 := inv w (by omega)
    have i2 := inv (w + 1) (by omega)
    have e : lgN g (fun w => P w && !knN g w k) k (w + 1) = if (P w && !knN g w k) = true then (inN (lgN g (fun w => P w && !knN g w k) k w).1 (poN g (lgN g (fun w => P w && !knN g w k) k w).1 k w (lgN g (fun w => P w && !knN g w k) k w).2) w, (lgN g (fun w => P w && !knN g w k) k w).2 + 1) else lgN g (fun w => P w && !knN g w k) k w := rfl
    have hb := sh_bitN (x := y) (w := w) (by omega) (hy w (by omega))
    show ow (M_X1_layLog_L58 a 60 (nI k) y (nI (lgN g (fun w => P w && !knN g w k) k w).2) (nI w) (rI σ a F')) _
    rw [e] at i2 ⊢
    unfold M_X1_layLog_L58
    rw [q_writes (h.rI ha), bnd1_some, if_neg (fun z => by have := (nI_leI (by omega) (by omega)).mp z; omega)]
    by_cases hR : (P w && !knN g w k) = true
    · rw [if_pos hR] at i2 ⊢
      have hN : (lgN g (fun w => P w && !knN g w k) k w).2 + 1 ≤ gW g := i2.2.2
      rw [if_neg (fun z => by have := hb.mp z; rw [hR] at this; exact absurd this (by decide)), if_neg (show ¬ (60 : Int32) ≤ nI (lgN g (fun w => P w && !knN g w k) k w).2 from fun z => by have := (nI_leI (a := 60) (by decide) (by omega)).mp z; omega)]
      obtain ⟨F2, f1, f2, f3⟩ := c_ins (k := k) (x := y) h ha (by omega) (by omega) hw (fun i hi => ⟨i1.1 i hi, hf i hi⟩)
      have hp := poN_le (g := g) (f := (lgN g (fun w => P w && !knN g w k) k w).1) (k := k) (w := w) (lgN g (fun w => P w && !knN g w k) k w).2
      rw [f1, bnd1_some]
      show ow (M_X1_layLog_J130 a 60 (rI σ a F2) (nI k) y (nI (lgN g (fun w => P w && !knN g w k) k w).2) (nI w) (nI (poN g (lgN g (fun w => P w && !knN g w k) k w).1 k w (lgN g (fun w => P w && !knN g w k) k w).2))) _
      unfold M_X1_layLog_J130
      rw [chk_pos ((ib_nI (by omega)).mpr (by omega)), ix_nI (by omega)]
      simp only [lt_eq]
      rw [uI_rI, nI_1, nI_1]
      refine ow_some.mpr ⟨_, rfl, fun i hi => ?_⟩
      have hi : i < (lgN g (fun w => P w && !knN g w k) k w).2 + 1 := hi
      show upd F2 _ (nI w) i = nI (inN _ _ w i)
      rcases Nat.lt_trichotomy i (poN g (lgN g (fun w => P w && !knN g w k) k w).1 k w (lgN g (fun w => P w && !knN g w k) k w).2) with q | q | q
      · rw [inN_a q, pk_un (by omega)]; exact f2 i q
      · rw [q, inN_b, pk_us]
      · rw [inN_c q, pk_un (by omega)]; exact f3 i q (by omega)
    · rw [if_neg hR]
      rw [if_pos (hb.mpr (by simpa using hR))]
      simp only [lt_eq]
      rw [nI_1]
      exact ow_some.mpr ⟨F', rfl, hf⟩) (fun s ⟨F', hs, hf⟩ => by
    subst hs
    show ow (M_X1_layLog_L58 a 60 (nI k) y (nI (lgN g (fun w => P w && !knN g w k) k (gW g)).2) (nI (gW g)) (rI σ a F')) _
    unfold M_X1_layLog_L58
    rw [q_writes (h.rI ha), bnd1_some, if_pos ((nI_leI (by omega) (by omega)).mpr (Nat.le_refl _))]
    exact ow_some.mpr ⟨F', rfl, hf⟩) 0 (nI k, (0 : Int32), rI σ a F) (Nat.zero_le _) ⟨F, rfl, hF⟩
  refine ⟨F', ?_, h3⟩
  unfold M_X1_layLog_J55
  rw [show iter (fun s : Int32 × Int32 × Wd => M_X1_layLog_L58 a 60 (nI k) y s.1 s.2.1 s.2.2) FU (nI k, (0 : Int32), rI σ a F) = some r from h1, h2]
  rfl
/-- the log of the class: a set of writes, k known -/
theorem c_lay (h : Qd T t l g σ τ) {a k : Nat} {x : Int64} {P : Nat → Bool} (ha : 34 < a) (hk : k ≤ gO g) (hx : ∀ w, w < 60 → x.toBitVec.getLsbD w = P w) : ∃ F, M_X1_layLog σ x (nI k) a 60 = some (nI (lgN g (fun w => P w && !knN g w k) k (gW g)).2, rI σ a F) ∧ ∀ i, i < (lgN g (fun w => P w && !knN g w k) k (gW g)).2 → F i = nI ((lgN g (fun w => P w && !knN g w k) k (gW g)).1 i) := by
  obtain ⟨y, f, h1, h2, h3⟩ := c_layA h ha hk hx
  obtain ⟨F, h4, h5⟩ := c_layB h ha hk h2 h3
  refine ⟨F, ?_, h5⟩
  unfold M_X1_layLog
  rw [h1, bnd1_some]
  exact h4
end LC
