/-! expressions: what both sides have in hand -/
abbrev opK (n : Nat) : Prop := n = 6 ∨ n = 8 ∨ n = 9 ∨ n = 10 ∨ n = 15
def rkW (n : Nat) : Nat := if n = 6 then 0 else if n = 10 ∨ n = 15 then 2 else 1
def pnN (W : Nat → Nat) (w : Nat) : Nat := cnN (fun i => decide (W i = 6)) w
def trW (W : Nat → Nat) (k : Nat) : Nat := if k = 0 then 0 else rkW (W (k - 1))
def opc (n : Nat) : Nat := if n = 8 then 2 else if n = 9 then 3 else if n = 10 then 4 else 5
def SEc (g a : Nat) (σ1 σ : Wd) : Prop := (∀ c j, ¬ (c = 2 ∧ (j = 5 ∨ j = 7 ∨ j = 8 ∨ j = 9 ∨ j = 10)) → c ≠ 5 → ¬ (c = 6 ∧ j = 4) → ¬ (c = g ∧ j = 13) → ¬ ((c = g + 7 ∨ c = g + 8) ∧ a ≤ j) → gI σ c j = gI σ1 c j) ∧ σ.2 = σ1.2
def okE (l a c j : Nat) : Prop := (c = 0 ∧ (j = 11 ∨ j = 12 ∨ j = 13 ∨ j = 14 ∨ j = 15 ∨ j = 16 ∨ j = 33 ∨ j = 37)) ∨ c = 22 ∨ ((c = 20 ∨ c = 21) ∧ 420 * l + a ≤ j)
def SEm (l a : Nat) (τ1 τ : Wd) : Prop := (∀ c j, ¬ okE l a c j → gI τ c j = gI τ1 c j) ∧ τ.2 = τ1.2
theorem SEc.refl {g a : Nat} {σ : Wd} : SEc g a σ σ := ⟨fun _ _ _ _ _ _ _ => rfl, rfl⟩
theorem SEm.refl {l a : Nat} {τ : Wd} : SEm l a τ τ := ⟨fun _ _ _ => rfl, rfl⟩
theorem SEc.wI {g a : Nat} {σ1 σ : Wd} {c k : Nat} {v : Int32} (hc : (c = 2 ∧ (k = 5 ∨ k = 7 ∨ k = 8 ∨ k = 9 ∨ k = 10)) ∨ c = 5 ∨ (c = 6 ∧ k = 4) ∨ (c = g ∧ k = 13) ∨ ((c = g + 7 ∨ c = g + 8) ∧ a ≤ k)) (h : SEc g a σ1 σ) : SEc g a σ1 (uI σ c k v) := ⟨fun d j x1 x2 x3 x4 x5 => by
  rw [gI_uI, if_neg (fun z => by obtain ⟨z1, z2⟩ := z; subst z1; subst z2; omega)]
  exact h.1 d j x1 x2 x3 x4 x5, h.2⟩
theorem SEm.wI {l a : Nat} {τ1 τ : Wd} {c k : Nat} {v : Int32} (hc : okE l a c k) (h : SEm l a τ1 τ) : SEm l a τ1 (uI τ c k v) := ⟨fun d j hd => by
  rw [gI_uI, if_neg (fun z => hd (by rw [z.1, z.2]; exact hc))]
  exact h.1 d j hd, h.2⟩
def adC (σ : Wd) (g s : Nat) (x y : Int32) : Wd := uI (uI (uI σ (g + 7) s x) (g + 8) s y) g 13 (nI (s + 1))
def emM (τ : Wd) (i : Nat) (x y : Int32) : Wd := uI (uI (uI τ 20 i x) 21 i y) 0 33 (nI (i + 1))
theorem c_add {σ : Wd} {g s : Nat} {x y : Int32} (h : gI σ g 13 = nI s) (hs : s < 400) : M_X7_addStep σ g x y = some (adC σ g s x y) := by
  have ci : ib (nI s) 400 := (ib_nI (by omega)).mpr (by omega)
  unfold M_X7_addStep adC
  rw [h, if_neg (show ¬ (400 : Int32) ≤ nI s from fun z => by have := (nI_leI (a := 400) (by omega) (by omega)).mp z; omega), chk_pos ci, ix_nI (by omega)]
  simp only [lt_eq]
  have e1 : gI (uI σ (g + 7) s x) g 13 = nI s := by rw [gI_uI, if_neg (by omega)]; exact h
  have e2 : gI (uI (uI σ (g + 7) s x) (g + 8) s y) g 13 = nI s := by rw [gI_uI, if_neg (by omega)]; exact e1
  rw [e1, chk_pos ci, ix_nI (by omega), e2, nI_1]
theorem m_emit {τ : Wd} {i : Nat} {x y : Int32} (h : gI τ 0 33 = nI i) (hi : i < 840) : M_X9_emit τ x y = some (emM τ i x y) := by
  have ci : ib (nI i) 840 := (ib_nI (by omega)).mpr (by omega)
  unfold M_X9_emit emM
  rw [h, chk_pos ci, ix_nI (by omega)]
  simp only [lt_eq]
  have e1 : gI (uI τ 20 i x) 0 33 = nI i := by rw [gI_uI, if_neg (by omega)]; exact h
  have e2 : gI (uI (uI τ 20 i x) 21 i y) 0 33 = nI i := by rw [gI_uI, if_neg (by omega)]; exact e1
  rw [e1, chk_pos ci, ix_nI (by omega), e2, nI_1]
/-- the codes in hand -/
def CP (g l a nc fl s : Nat) (cs : List (Nat × Int32)) (D : Nat) (σ τ : Wd) : Prop := fl = 0 → s = a + cs.length ∧ CC cs a (gI σ (g + 7)) (gI σ (g + 8)) ∧ CM cs (420 * l + a) (gI τ 20) (gI τ 21) ∧ wfR nc cs 0 D
theorem CP_emit {g l a nc fl s D D' k : Nat} {cs : List (Nat × Int32)} {v x y x' y' : Int32} {σ τ : Wd} (h : CP g l a nc fl s cs D σ τ) (hx : fl = 0 → x = (ckd k v).1 ∧ ((k ≠ 1 ∨ v < 6) → y = (ckd k v).2) ∧ x' = nI k ∧ (k < 2 → y' = v) ∧ wfR nc [(k, v)] D D') : CP g l a nc fl (s + 1) (cs ++ [(k, v)]) D' (adC σ g s x y) (emM τ (420 * l + s) x' y') := by
  intro hfl
  obtain ⟨h1, h2, h3, h4⟩ := h hfl
  obtain ⟨x1, x2, x3, x4, x5⟩ := hx hfl
  refine ⟨by rw [List.length_append]; show s + 1 = a + (cs.length + 1); omega, CC_app h2 (fun i hi => ⟨?_, ?_⟩) ?_ (fun z => ?_), CM_app h3 (fun i hi => ⟨?_, ?_⟩) ?_ (fun z => ?_), wfR_app cs 0 h4 x5⟩
  · unfold adC; rw [gI_uI, if_neg (by omega), gI_uI, if_neg (by omega), gI_uI, if_neg (by omega)]
  · unfold adC; rw [gI_uI, if_neg (by omega), gI_uI, if_neg (by omega), gI_uI, if_neg (by omega)]
  · unfold adC; rw [gI_uI, if_neg (by omega), gI_uI, if_neg (by omega), gI_uI, if_pos ⟨rfl, by omega⟩]; exact x1
  · unfold adC; rw [gI_uI, if_neg (by omega), gI_uI, if_pos ⟨rfl, by omega⟩]; exact x2 z
  · unfold emM; rw [gI_uI, if_neg (by omega), gI_uI, if_neg (by omega), gI_uI, if_neg (by omega)]
  · unfold emM; rw [gI_uI, if_neg (by omega), gI_uI, if_neg (by omega), gI_uI, if_neg (by omega)]
  · unfold emM; rw [gI_uI, if_neg (by omega), gI_uI, if_neg (by omega), gI_uI, if_pos ⟨rfl, by omega⟩]; exact x3
  · unfold emM; rw [gI_uI, if_neg (by omega), gI_uI, if_pos ⟨rfl, by omega⟩]; exact x4 z
theorem CP_eq {g l a nc fl s D : Nat} {cs : List (Nat × Int32)} {σ τ σ' τ' : Wd} (h : CP g l a nc fl s cs D σ τ) (h1 : σ'.1 (g + 7) = σ.1 (g + 7)) (h2 : σ'.1 (g + 8) = σ.1 (g + 8)) (h3 : τ'.1 20 = τ.1 20) (h4 : τ'.1 21 = τ.1 21) : CP g l a nc fl s cs D σ' τ' := fun hfl => by
  obtain ⟨a1, a2, a3, a4⟩ := h hfl
  refine ⟨a1, ?_, ?_, a4⟩
  · show CC cs a (σ'.1 (g + 7)) (σ'.1 (g + 8))
    rw [h1, h2]; exact a2
  · show CM cs (420 * l + a) (τ'.1 20) (τ'.1 21)
    rw [h3, h4]; exact a3
/-- the waiting signs -/
def Wt (W : Nat → Nat) (w d : Nat) (σ τ : Wd) : Prop := gI σ 2 5 = nI w ∧ gI τ 0 37 = nI w ∧ d ≤ 6 ∧ pnN W w = d ∧ (∀ i, i < w → opK (W i) ∧ gI σ 5 i = nI (ck (W i)) ∧ gI τ 22 i = nI (W i)) ∧ (∀ k, k ≤ w → k ≤ 3 * pnN W k + trW W k)
theorem trW_le {W : Nat → Nat} {k : Nat} : trW W k ≤ 2 := by
  unfold trW rkW
  split
  · omega
  · split
    · omega
    · split <;> omega
theorem Wt_bd {W : Nat → Nat} {w d : Nat} {σ τ : Wd} (h : Wt W w d σ τ) : w ≤ 20 ∧ d ≤ w := by
  obtain ⟨_, _, a, b, _, c⟩ := h
  have := c w (Nat.le_refl _)
  have := trW_le (W := W) (k := w)
  have := cnN_le (P := fun i => decide (W i = 6)) w
  unfold pnN at *
  omega
theorem rank_t {n : Nat} (h : opK n) : M_X3_rankOf (nI (ck n)) = some (nI (rkW n)) := by
  rcases h with rfl | rfl | rfl | rfl | rfl <;> decide +kernel
theorem ck_opc {n : Nat} (h : opK n) (h6 : n ≠ 6) (v : Int32) : (5 : Int32) = (ckd (opc n) v).1 ∧ nI (ck n) = (ckd (opc n) v).2 ∧ 2 ≤ opc n ∧ opc n ≤ 5 := by
  rcases h with rfl | rfl | rfl | rfl | rfl
  · exact absurd rfl h6
  · exact ⟨rfl, rfl, by decide, by decide⟩
  · exact ⟨rfl, rfl, by decide, by decide⟩
  · exact ⟨rfl, rfl, by decide, by decide⟩
  · exact ⟨rfl, rfl, by decide, by decide⟩
