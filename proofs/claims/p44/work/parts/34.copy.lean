/-! rows that are copied; what stays under a call that only asks -/
theorem rI_rI {σ : Wd} {c : Nat} {f g : Nat → Int32} : rI (rI σ c f) c g = rI σ c g := by
  unfold rI
  congr 1
  funext a
  by_cases h : a = c <;> simp [h]
theorem rI_self {σ : Wd} {c : Nat} : rI σ c (σ.1 c) = σ := by
  obtain ⟨a, b, d⟩ := σ
  unfold rI
  congr 1
  funext x
  by_cases h : x = c
  · subst h; simp
  · simp [h]
theorem rI_at {σ : Wd} {c : Nat} {f : Nat → Int32} : (rI σ c f).1 c = f := by unfold rI; simp
theorem uI_rI {σ : Wd} {c k : Nat} {f : Nat → Int32} {v : Int32} : uI (rI σ c f) c k v = rI σ c (upd f k v) := by
  unfold uI
  rw [rI_at, rI_rI]
theorem cpy_0 {f g : Nat → Int32} {sp dp : Nat} : va_cpy f g sp dp 0 = g := by
  funext k
  unfold va_cpy
  rw [if_neg (by omega)]
theorem cpy_s {f g : Nat → Int32} {sp dp i : Nat} : upd (va_cpy f g sp dp i) (dp + i) (f (sp + i)) = va_cpy f g sp dp (i + 1) := by
  funext k
  unfold va_cpy upd
  by_cases h : k = dp + i
  · subst h; rw [if_pos rfl, if_pos (by omega)]; congr 1; omega
  · rw [if_neg h]
    show (if dp ≤ k ∧ k < dp + i then f (sp + (k - dp)) else g k) = _
    by_cases h2 : dp ≤ k ∧ k < dp + i
    · rw [if_pos h2, if_pos (by omega)]
    · rw [if_neg h2, if_neg (by omega)]
/-- a loop that copies -/
theorem cp_loop {σ0 : Wd} {a b sp dp N : Nat} {body : Int32 × Wd → Option ((Int32 × Wd) ⊕ Wd)} (hab : a ≠ b ∨ dp + N ≤ sp ∨ dp ≤ sp) (hN : N < 100000)
    (hb : ∀ i s, i ≤ N → (∀ c, c ≠ b → s.1 c = σ0.1 c) → s.2 = σ0.2 → body (nI i, s) = if N ≤ i then some (.inr s) else some (.inl (nI (i + 1), uI s b (dp + i) (gI s a (sp + i))))) : iter body FU (nI 0, σ0) = some (rI σ0 b (va_cpy (σ0.1 a) (σ0.1 b) sp dp N)) := by
  obtain ⟨x, h1, h2⟩ := ow_for (Q := fun x => x = rI σ0 b (va_cpy (σ0.1 a) (σ0.1 b) sp dp N)) (body := body) (fun i s => s = (nI i, rI σ0 b (va_cpy (σ0.1 a) (σ0.1 b) sp dp i))) N (FU_big (by omega)) (fun i s hi hs => by
    subst hs
    have hc : ∀ c, c ≠ b → (rI σ0 b (va_cpy (σ0.1 a) (σ0.1 b) sp dp i)).1 c = σ0.1 c := fun c hc => by unfold rI; simp [hc]
    refine ow_of ((hb i (rI σ0 b (va_cpy (σ0.1 a) (σ0.1 b) sp dp i)) (by omega) hc rfl).trans (if_neg (by omega))) ?_
    show (nI (i + 1), _) = _
    rw [uI_rI, ← cpy_s]
    congr 2
    congr 1
    by_cases h : a = b
    · subst h
      unfold gI
      rw [rI_at]
      unfold va_cpy
      rw [if_neg (by rcases hab with h | h | h <;> omega)]
    · unfold gI
      rw [hc a h]) (fun s hs => by
    subst hs
    exact ow_of ((hb N (rI σ0 b (va_cpy (σ0.1 a) (σ0.1 b) sp dp N)) (by omega) (fun c hc => by unfold rI; simp [hc]) rfl).trans (if_pos (by omega))) rfl) 0 (nI 0, σ0) (by omega) (by rw [cpy_0, rI_self])
  rw [h1, h2]
theorem k1_nI (i : Nat) : nI i + 1 = nI (i + 1) := nI_1 i
theorem m_copiesNow {τ : Wd} {l n : Nat} (hl : l < 2) (h18 : gI τ 0 18 = nI l) (h19 : gI τ 19 l = nI n) : M_X9_copiesNow τ = some (uI (rI τ 26 (va_cpy (τ.1 25) (τ.1 26) 0 0 770)) 0 43 (nI n)) := by
  have h := cp_loop (σ0 := τ) (a := 25) (b := 26) (sp := 0) (dp := 0) (N := 770) (body := fun s : Int32 × Wd => M_X9_copiesNow_L2 s.1 s.2) (Or.inl (by decide)) (by decide) (fun i s hi _ _ => by
    show M_X9_copiesNow_L2 (nI i) s = _
    unfold M_X9_copiesNow_L2
    simp (disch := omega) only [i_lit, pk_mul, nI_add, ib_nI, ix_nI, nI_leI, nI_ltI, nI_eq, ne_eq, bnd1_some, bnd2_some, lt_eq]
    by_cases h : 770 ≤ i
    · rw [if_pos h, if_pos h]
    · rw [if_neg h, if_neg h, chk_pos (by omega), chk_pos (by omega), Nat.zero_add])
  unfold M_X9_copiesNow
  rw [show ((0 : Int32), τ) = (nI 0, τ) from rfl, h]
  show chk _ _ = _
  simp (disch := omega) only [gI_uI, gI_rI, gI_uL, gI_rL, gI_uR, gL_uL, gL_rL, gL_uI, gL_rI, gL_uR, gR_uI, gR_rI, gR_uL, gR_rL, gR_uR, bnd1_some, bnd2_some, lt_eq, h18, h19, if_false, ix_nI, ib_nI, Nat.reduceEqDiff, false_and]
  rw [chk_pos hl]
theorem m_keepsRow {τ : Wd} : M_X9_keepsRow τ = some (rI τ 25 (va_cpy (τ.1 26) (τ.1 25) 0 0 770)) := by
  have h := cp_loop (σ0 := τ) (a := 26) (b := 25) (sp := 0) (dp := 0) (N := 770) (body := fun s : Int32 × Wd => M_X9_keepsRow_L2 s.1 s.2) (Or.inl (by decide)) (by decide) (fun i s hi _ _ => by
    show M_X9_keepsRow_L2 (nI i) s = _
    unfold M_X9_keepsRow_L2
    simp (disch := omega) only [i_lit, pk_mul, nI_add, ib_nI, ix_nI, nI_leI, nI_ltI, nI_eq, ne_eq, bnd1_some, bnd2_some, lt_eq]
    by_cases h : 770 ≤ i
    · rw [if_pos h, if_pos h]
    · rw [if_neg h, if_neg h, chk_pos (by omega), chk_pos (by omega), Nat.zero_add])
  unfold M_X9_keepsRow
  rw [show ((0 : Int32), τ) = (nI 0, τ) from rfl, h]
  rfl
theorem MR_cong {g : Gs} {f f' : Nat → Int32} {n m : Nat} (hI : Inv n m g) (h : ∀ k, k < 770 → f' k = f k) (hM : MR g f) : MR g f' := by
  obtain ⟨⟨a1, a2, a3, a4, a5⟩, b, c, d, e, k, a⟩ := hM
  have hW := hI.1.1
  have hO := hI.1.2.1
  have hH := hI.1.2.2.2.1
  have hD := hI.2.2.2.2.2.2.2.1
  refine ⟨⟨by rw [h _ (by omega)]; exact a1, by rw [h _ (by omega)]; exact a2, by rw [h _ (by omega)]; exact a3, by rw [h _ (by omega)]; exact a4, by rw [h _ (by omega)]; exact a5⟩, fun i hi => by rw [h _ (by omega)]; exact b i hi, fun i hi => ⟨by rw [h _ (by omega)]; exact (c i hi).1, fun j hj => by rw [h _ (by omega)]; exact (c i hi).2 j hj⟩, fun s hs => ⟨by rw [h _ (by omega)]; exact (d s hs).1, by rw [h _ (by omega)]; exact (d s hs).2.1, by rw [h _ (by omega)]; exact (d s hs).2.2.1, fun o ho => ⟨by rw [h _ (by omega)]; exact ((d s hs).2.2.2 o ho).1, by rw [h _ (by omega)]; exact ((d s hs).2.2.2 o ho).2⟩⟩, fun w hw => ⟨by rw [h _ (by omega)]; exact (e w hw).1, by rw [h _ (by omega)]; exact (e w hw).2.1, by rw [h _ (by omega)]; exact (e w hw).2.2.1, by rw [h _ (by omega)]; exact (e w hw).2.2.2.1, fun q => by rw [h _ (by omega)]; exact (e w hw).2.2.2.2 q⟩, fun i hi => ⟨by rw [h _ (by omega)]; exact (k i hi).1, by have := hD i hi; rw [h _ (by omega)]; exact (k i hi).2⟩, fun c w hc hw => by rw [h _ (by omega)]; exact a c w hc hw⟩
theorem cpy_at {f g : Nat → Int32} {n k : Nat} (h : k < n) : va_cpy f g 0 0 n k = f k := by
  unfold va_cpy
  rw [if_pos (by omega)]
  congr 1
  omega
/-- what the model keeps over a call that only asks -/
def pM (c : Nat) : Bool := c == 1 || c == 7 || (10 ≤ c && c ≤ 21) || c == 25 || c == 32 || c == 35 || c == 36
def KM (τ τ' : Wd) : Prop := (∀ c, pM c = true → τ'.1 c = τ.1 c) ∧ τ'.2.1 7 = τ.2.1 7 ∧ (∀ k, k = 2 ∨ k = 17 ∨ k = 18 ∨ k = 51 → gI τ' 0 k = gI τ 0 k)
theorem KM.refl {τ : Wd} : KM τ τ := ⟨fun _ _ => rfl, rfl, fun _ _ => rfl⟩
theorem KM.trans {a b c : Wd} (h : KM a b) (k : KM b c) : KM a c := ⟨fun x hx => (k.1 x hx).trans (h.1 x hx), k.2.1.trans h.2.1, fun x hx => (k.2.2 x hx).trans (h.2.2 x hx)⟩
theorem KM.wI {τ τ' : Wd} {c : Nat} {f : Nat → Int32} (hc : pM c = false) (h0 : c ≠ 0) (h : KM τ τ') : KM τ (rI τ' c f) := by
  refine h.trans ⟨fun x hx => ?_, rfl, fun k _ => ?_⟩
  · have : x ≠ c := fun e => by subst e; rw [hc] at hx; cases hx
    show (if x = c then f else τ'.1 x) = _
    rw [if_neg this]
  · rw [gI_rI, if_neg (fun e => h0 e.symm)]
theorem KM.wO {τ τ' : Wd} {k : Nat} {v : Int32} (hk : ¬ (k = 2 ∨ k = 17 ∨ k = 18 ∨ k = 51)) (h : KM τ τ') : KM τ (uI τ' 0 k v) := by
  refine h.trans ⟨fun x hx => ?_, rfl, fun j hj => ?_⟩
  · have : x ≠ 0 := fun e => by subst e; cases hx
    show (if x = 0 then _ else τ'.1 x) = _
    rw [if_neg this]
  · rw [gI_uI, if_neg (show ¬ (0 = 0 ∧ j = k) from fun e => hk (e.2 ▸ hj))]
theorem KM.uI {τ τ' : Wd} {c k : Nat} {v : Int32} (hc : pM c = false) (h0 : c ≠ 0) (h : KM τ τ') : KM τ (uI τ' c k v) := KM.wI hc h0 h
theorem TM_KM {T : Td} {l : Nat} {τ τ' : Wd} (h : KM τ τ') (hT : TM T l τ) : TM T l τ' := by
  have e : ∀ c k, pM c = true → gI τ' c k = gI τ c k := fun c k hc => congrFun (h.1 c hc) k
  obtain ⟨⟨a1, a2, a3, a4, a5⟩, b, c⟩ := hT
  refine ⟨⟨by rw [e _ _ rfl]; exact a1, by rw [e _ _ rfl]; exact a2, by rw [e _ _ rfl]; exact a3, by rw [e _ _ rfl]; exact a4, by rw [e _ _ rfl]; exact a5⟩, fun i hi => by rw [e _ _ rfl]; exact b i hi, fun f hf => ?_⟩
  obtain ⟨c1, c2, c3, c4⟩ := c f hf
  refine ⟨by rw [e _ _ rfl]; exact c1, by rw [e _ _ rfl]; exact c2, by rw [e _ _ rfl]; exact c3, fun p hp hq => ?_⟩
  obtain ⟨a, d1, d2, d3, d4⟩ := c4 p hp hq
  refine ⟨a, by rw [e _ _ rfl]; exact d1, by rw [e _ _ rfl]; exact d2, d3, ?_⟩
  rw [show gI τ' 20 = gI τ 20 from h.1 20 rfl, show gI τ' 21 = gI τ 21 from h.1 21 rfl]
  exact d4
theorem Rel_KM {σ τ τ' : Wd} (h : KM τ τ') (hR : Rel σ τ) : Rel σ τ' := by
  have e : ∀ c k, pM c = true → gI τ' c k = gI τ c k := fun c k hc => congrFun (h.1 c hc) k
  obtain ⟨T, t, l, tp, un, nx, g, hs, sl, hl, ⟨h1, h2, h3, h4⟩, h5, ⟨h6, h7, h8, h9, h10, h11, h12, h13⟩, ⟨h14, h15, h16, h17⟩, ⟨h18, h19, h20, h21, h22, h23⟩, h24, h25⟩ := hR
  refine ⟨T, t, l, tp, un, nx, g, hs, sl, hl, ⟨h1, h2, by rw [h.2.2 2 (Or.inl rfl)]; exact h3, fun i hi => by rw [e _ _ rfl]; exact h4 i hi⟩, by rw [h.2.2 17 (Or.inr (Or.inl rfl))]; exact h5, ⟨h6, h7, h8, h9, by rw [h.2.2 18 (by decide)]; exact h10, h11, h12, TM_KM h h13⟩, ⟨h14, h15, by rw [h.1 25 rfl]; exact h16, h17⟩, ⟨h18, h19, h20, h21, by rw [h.2.2 51 (by decide)]; exact h22, fun u hu => ?_⟩, fun k hk => ?_, fun k hk => ?_⟩
  · rw [show gI τ' 32 = gI τ 32 from h.1 32 rfl]
    exact h23 u hu
  · rw [show gI τ' 35 = gI τ 35 from h.1 35 rfl, show gI τ' 36 = gI τ 36 from h.1 36 rfl]
    exact h24 k hk
  · rw [show gL τ' 7 = gL τ 7 from h.2.1]
    exact h25 k hk
/-- what the class keeps -/
def pC (c : Nat) : Prop := c < 108 ∧ c ≠ 35 ∧ c ≠ 36
def KC (σ σ' : Wd) : Prop := ∀ c, pC c → σ'.1 c = σ.1 c ∧ σ'.2.1 c = σ.2.1 c ∧ σ'.2.2 c = σ.2.2 c
theorem KC.refl {σ : Wd} : KC σ σ := fun _ _ => ⟨rfl, rfl, rfl⟩
theorem KC.trans {a b c : Wd} (h : KC a b) (k : KC b c) : KC a c := fun x hx => ⟨(k x hx).1.trans (h x hx).1, (k x hx).2.1.trans (h x hx).2.1, (k x hx).2.2.trans (h x hx).2.2⟩
theorem KC.wI {σ σ' : Wd} {c : Nat} {f : Nat → Int32} (hc : ¬ pC c) (h : KC σ σ') : KC σ (rI σ' c f) := by
  refine h.trans (fun x hx => ⟨?_, rfl, rfl⟩)
  have : x ≠ c := fun e => hc (e ▸ hx)
  show (if x = c then f else σ'.1 x) = _
  rw [if_neg this]
theorem KC.uI {σ σ' : Wd} {c k : Nat} {v : Int32} (hc : ¬ pC c) (h : KC σ σ') : KC σ (uI σ' c k v) := KC.wI hc h
theorem KC.wL {σ σ' : Wd} {c : Nat} {f : Nat → Int64} (hc : ¬ pC c) (h : KC σ σ') : KC σ (rL σ' c f) := by
  refine h.trans (fun x hx => ⟨rfl, ?_, rfl⟩)
  have : x ≠ c := fun e => hc (e ▸ hx)
  show (if x = c then f else σ'.2.1 x) = _
  rw [if_neg this]
theorem KC.uL {σ σ' : Wd} {c k : Nat} {v : Int64} (hc : ¬ pC c) (h : KC σ σ') : KC σ (uL σ' c k v) := KC.wL hc h
theorem CA_eq {g : Gs} {b : Nat} {σ σ' : Wd} (h : ∀ j, 2 ≤ j → j ≤ 6 → σ'.1 (b + j) = σ.1 (b + j)) (hA : CA g b σ) : CA g b σ' := by
  have e : ∀ j k, 2 ≤ j → j ≤ 6 → gI σ' (b + j) k = gI σ (b + j) k := fun j k h1 h2 => congrFun (h j h1 h2) k
  refine ⟨fun w hw => ?_, fun i hi => ?_⟩
  · rw [e 2 _ (by omega) (by omega), e 3 _ (by omega) (by omega), e 4 _ (by omega) (by omega), e 5 _ (by omega) (by omega)]
    exact hA.1 w hw
  · rw [e 6 _ (by omega) (by omega)]
    exact hA.2 i hi
theorem TC_eq {T : Td} {t : Nat} {σ σ' : Wd} (h : ∀ j, j ≤ 8 → σ'.1 (t + j) = σ.1 (t + j)) (hT : TC T t σ) : TC T t σ' := by
  have e0 : gI σ' t = gI σ t := h 0 (by omega)
  have e : ∀ j, j ≤ 8 → gI σ' (t + j) = gI σ (t + j) := h
  obtain ⟨a, b, c⟩ := hT
  refine ⟨by rw [e0]; exact a, fun i hi => by rw [e 1 (by omega)]; exact b i hi, fun f hf => ?_⟩
  rw [e 2 (by omega), e 3 (by omega), e 4 (by omega), e 5 (by omega), e 6 (by omega), e 7 (by omega), e 8 (by omega)]
  exact c f hf
theorem Rel_KC {σ σ' τ : Wd} (h : KC σ σ') (hR : Rel σ τ) : Rel σ' τ := by
  have e : ∀ c k, pC c → gI σ' c k = gI σ c k := fun c k hc => congrFun (h c hc).1 k
  obtain ⟨T, t, l, tp, un, nx, g, hs, sl, hl, ⟨h1, h2, h3, h4⟩, h5, ⟨h6, h7, h8, h9, h10, h11, h12, h13⟩, ⟨h14, h15, h16, h17⟩, ⟨h18, h19, h20, h21, h22, h23⟩, h24, h25⟩ := hR
  have d0 : ∀ c, c < 35 → pC c := fun c hc => ⟨by omega, by omega, by omega⟩
  have hA : ∀ g, CA g 28 σ → CA g 28 σ' := fun g q => CA_eq (fun j h1 h2 => (h (28 + j) (d0 _ (by omega))).1) q
  refine ⟨T, t, l, tp, un, nx, g, hs, sl, hl, ⟨h1, by rw [e _ _ (d0 _ (by decide))]; exact h2, h3, fun i hi => by rw [e _ _ (d0 _ (by decide))]; exact h4 i hi⟩, by rw [e _ _ (d0 _ (by decide))]; exact h5, ⟨h6, (congrFun (h 0 (d0 _ (by decide))).2.2 4).trans h7, (congrFun (h 0 (d0 _ (by decide))).2.2 5).trans h8, h9, h10, h11, TC_eq (fun j hj => (h (t + j) (d0 _ (by omega))).1) h12, h13⟩, ⟨by rw [(h 29 (d0 _ (by decide))).2.1]; exact h14, hA g h15, h16, h17⟩, ⟨h18, h19, by rw [e _ _ ⟨by decide, by decide, by decide⟩]; exact h20, by rw [e _ _ ⟨by decide, by decide, by decide⟩]; exact h21, h22, fun u hu => ?_⟩, fun k hk => ?_, h25⟩
  · obtain ⟨q1, q2, q3⟩ := h23 u hu
    refine ⟨?_, hA _ q2, q3⟩
    have hm := Nat.mod_lt (nx + 40 - un + u) (show 40 > 0 by decide)
    rw [(h _ ⟨by omega, by omega, by omega⟩).2.1]
    exact q1
  · obtain ⟨q1, q2, q3, q4⟩ := h24 k hk
    refine ⟨q1, by rw [e _ _ ⟨by decide, by decide, by decide⟩]; exact q2, q3, fun hq => ?_⟩
    obtain ⟨r1, r2, r3⟩ := q4 hq
    exact ⟨by rw [(h _ ⟨by omega, by omega, by omega⟩).2.1]; exact r1, CA_eq (fun j h1 h2 => (h _ ⟨by omega, by omega, by omega⟩).1) r2, r3⟩
