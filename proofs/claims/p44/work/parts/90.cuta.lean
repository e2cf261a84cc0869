/-! the class cuts all; the tokens -/
def sq (u : Nat → Nat) (e : Nat) : Nat → Nat
  | 0 => rn (fun i => isBn (u i)) e 0
  | k + 1 => rn (fun i => isBn (u i)) e (tkQ u e (sq u e k))
def kTk (u : Nat → Nat) (e k : Nat) : Nat := if sq u e k < e then tkK u e (sq u e k) else 0
def vTk (u : Nat → Nat) (e k : Nat) : Nat := tkV u e (sq u e k)
def Rch (u : Nat → Nat) (e k : Nat) : Prop := ∀ j, j < k → sq u e j < e
theorem tkQ_bd {u : Nat → Nat} {e p : Nat} (hp : p < e) : p < tkQ u e p ∧ tkQ u e p ≤ e := by
  unfold tkQ
  by_cases hl : isLn (u p) = true
  · rw [if_pos hl, rn_go (P := fun i => isLn (u i)) hp hl]
    obtain ⟨a, b, _⟩ := rn_bd (P := fun i => isLn (u i)) (e := e) (e - (p + 1)) (p + 1) rfl (by omega)
    omega
  · rw [if_neg hl]
    by_cases hd : isDn (u p) = true
    · rw [if_pos hd, rn_go (P := fun i => isDn (u i)) hp hd]
      obtain ⟨a, b, _⟩ := rn_bd (P := fun i => isDn (u i)) (e := e) (e - (p + 1)) (p + 1) rfl (by omega)
      omega
    · rw [if_neg hd]; omega
theorem sq_le {u : Nat → Nat} {e : Nat} : ∀ k, Rch u e k → sq u e k ≤ e := by
  intro k
  cases k with
  | zero =>
    intro _
    exact (rn_bd (P := fun i => isBn (u i)) (e := e) e 0 rfl (Nat.zero_le _)).2.1
  | succ k =>
    intro h
    have q := tkQ_bd (u := u) (h k (by omega))
    exact (rn_bd (P := fun i => isBn (u i)) (e := e) _ (tkQ u e (sq u e k)) rfl q.2).2.1
theorem sq_lt {u : Nat → Nat} {e k : Nat} (h : sq u e k < e) : sq u e k < sq u e (k + 1) := by
  have q := tkQ_bd (u := u) h
  have := (rn_bd (P := fun i => isBn (u i)) (e := e) _ (tkQ u e (sq u e k)) rfl q.2).1
  show sq u e k < rn (fun i => isBn (u i)) e (tkQ u e (sq u e k))
  omega
theorem sq_mono {u : Nat → Nat} {e : Nat} : ∀ k j, j < k → Rch u e k → sq u e j < sq u e k := by
  intro k
  induction k with
  | zero => intro j h; omega
  | succ k ih =>
    intro j h hR
    have := sq_lt (hR k (by omega))
    by_cases e0 : j = k
    · rw [e0]; exact this
    · have := ih j (by omega) (fun i hi => hR i (by omega))
      omega
theorem Rch_dn {u : Nat → Nat} {e k j : Nat} (h : Rch u e k) (hj : j ≤ k) : Rch u e j := fun i hi => h i (by omega)
def RwC (u : Nat → Nat) (e k : Nat) (σ : Wd) : Prop := gI σ 7 k = nI (ck (kTk u e k)) ∧ gI σ 8 k = nI (sq u e k) ∧ (kTk u e k = 1 → gL σ 9 k = lN (cv 8 (vTk u e k)) ∧ vTk u e k < 27 ^ 8) ∧ (kTk u e k = 2 → gL σ 9 k = lN (vTk u e k) ∧ vTk u e k ≤ 9999)
def TokC (u : Nat → Nat) (e : Nat) (σ : Wd) : Prop := ∀ k, k ≤ 400 → Rch u e k → RwC u e k σ
/-- what cutting keeps -/
def TF (σ σ' : Wd) : Prop := (∀ c, c ≠ 6 → c ≠ 7 → c ≠ 8 → σ'.1 c = σ.1 c) ∧ (∀ c, c ≠ 9 → σ'.2.1 c = σ.2.1 c) ∧ σ'.2.2 = σ.2.2
theorem TF.refl {σ : Wd} : TF σ σ := ⟨fun _ _ _ _ => rfl, fun _ _ => rfl, rfl⟩
theorem TF.wI {σ σ' : Wd} {c k : Nat} {v : Int32} (hc : c = 6 ∨ c = 7 ∨ c = 8) (h : TF σ σ') : TF σ (uI σ' c k v) := ⟨fun d a b f => by
  have : (uI σ' c k v).1 d = σ'.1 d := by
    funext j
    show gI (uI σ' c k v) d j = gI σ' d j
    rw [gI_uI, if_neg (fun z => by omega)]
  rw [this]; exact h.1 d a b f, h.2.1, h.2.2⟩
theorem TF.wL {σ σ' : Wd} {k : Nat} {v : Int64} (h : TF σ σ') : TF σ (uL σ' 9 k v) := ⟨h.1, fun d a => by
  have : (uL σ' 9 k v).2.1 d = σ'.2.1 d := by
    funext j
    show gL (uL σ' 9 k v) d j = gL σ' d j
    rw [gL_uL, if_neg (fun z => a z.1)]
  rw [this]; exact h.2.1 d a, h.2.2⟩
theorem TF.tk {σ σ' σ'' : Wd} {k K V q : Nat} (h : TF σ σ') (h2 : TkS k K V q σ' σ'') : TF σ σ'' := ⟨fun c a b f => (h2.1 c a b).trans (h.1 c a b f), fun c a => (h2.2.1 c a).trans (h.2.1 c a), h2.2.2.1.trans h.2.2⟩
section CA2
variable {u : Nat → Nat} {e : Nat} {σ : Wd}
theorem ByC_TF {σ' : Wd} (h : ByC u e σ) (hf : TF σ σ') : ByC u e σ' := ⟨h.1, fun i hi => ⟨(h.2 i hi).1, (congrFun (hf.1 1 (by decide) (by decide) (by decide)) i).trans (h.2 i hi).2⟩⟩
theorem c_takeAll (hB : ByC u e σ) : ∃ σ', M_X6_takeAll σ (nI e) = some σ' ∧ TF σ σ' ∧ gI σ' 6 4 = 0 ∧ TokC u e σ' ∧ ∃ n, n ≤ 401 ∧ gI σ' 6 3 = nI n ∧ Rch u e n ∧ (sq u e n = e ∨ n = 401) := by
  have he := hB.1
  unfold M_X6_takeAll
  simp only [lt_eq]
  rw [if_neg (show ¬ (2000 : Int32) < nI e from fun z => by have := (nI_ltI (a := 2000) (by omega) (by omega)).mp z; omega)]
  have f0 : TF σ (uI (uI (uI σ 6 3 0) 6 4 0) 6 5 0) := TF.wI (Or.inl rfl) (TF.wI (Or.inl rfl) (TF.wI (Or.inl rfl) TF.refl))
  have B0 := ByC_TF hB f0
  rw [c_skip B0 (p := 0) gI_s (Nat.zero_le _), bnd1_some, uI_uI]
  obtain ⟨x, h1, h2⟩ := ow_iter (body := fun s : Wd => M_X6_takeAll_L28 (nI e) s) (Q := fun x => TF σ x ∧ gI x 6 4 = 0 ∧ ∃ k, k ≤ 401 ∧ Rch u e k ∧ gI x 6 3 = nI k ∧ (∀ j, j < k → RwC u e j x) ∧ (sq u e k = e ∨ k = 401)) (fun m s => TF σ s ∧ gI s 6 4 = 0 ∧ ∃ k, m = e - sq u e k ∧ k ≤ 401 ∧ Rch u e k ∧ gI s 6 3 = nI k ∧ gI s 6 5 = nI (sq u e k) ∧ (∀ j, j < k → RwC u e j s)) (fun m s ⟨hf, h4, k, hm, hk, hR, h3, h5, hrw⟩ => by
    have hle := sq_le k hR
    show ow (M_X6_takeAll_L28 (nI e) s) _
    unfold M_X6_takeAll_L28
    rw [h5, h3]
    by_cases h0 : sq u e k < e
    · rw [if_neg (fun z => by have := (nI_leI (by omega) (by omega)).mp z; omega)]
      by_cases h40 : k = 401
      · rw [if_pos (show (400 : Int32) < nI k from (nI_ltI (a := 400) (by omega) (by omega)).mpr (by omega))]
        exact ow_some.mpr ⟨hf, h4, k, hk, hR, h3, hrw, Or.inr h40⟩
      · rw [if_neg (show ¬ (400 : Int32) < nI k from fun z => by have := (nI_ltI (a := 400) (by omega) (by omega)).mp z; omega), chk_pos ((ib_nI (by omega)).mpr (by omega)), ix_nI (by omega)]
        simp only [lt_eq]
        have f1 : TF σ (uI s 8 k (nI (sq u e k))) := TF.wI (Or.inr (Or.inr rfl)) hf
        obtain ⟨s1, t1, t2⟩ := c_one (k := k) (p := sq u e k) (ByC_TF hB f1) (show gI (uI s 8 k (nI (sq u e k))) 6 5 = nI (sq u e k) by rw [gI_uI, if_neg (by omega)]; exact h5) (show gI (uI s 8 k (nI (sq u e k))) 6 3 = nI k by rw [gI_uI, if_neg (by omega)]; exact h3) (by omega) h0
        have f2 := f1.tk t2
        obtain ⟨a1, a2, a3, a4, a5, a6, a7, a8, a9⟩ := t2
        rw [t1, bnd1_some, a4 3 (by decide), show gI (uI s 8 k (nI (sq u e k))) 6 3 = nI k by rw [gI_uI, if_neg (by omega)]; exact h3, nI_1]
        have f3 : TF σ (uI s1 6 3 (nI (k + 1))) := TF.wI (Or.inl rfl) f2
        have q := tkQ_bd (u := u) h0
        rw [c_skip (ByC_TF hB f3) (p := tkQ u e (sq u e k)) (by rw [gI_uI, if_neg (by omega)]; exact a5) q.2, bnd1_some]
        have hlt := sq_lt h0
        have hR2 : Rch u e (k + 1) := fun j hj => by
          by_cases e0 : j = k
          · rw [e0]; exact h0
          · exact hR j (by omega)
        refine ow_some.mpr ⟨e - sq u e (k + 1), by omega, TF.wI (Or.inl rfl) f3, ?_, k + 1, rfl, by omega, hR2, ?_, gI_s, fun j hj => ?_⟩
        · rw [gI_uI, if_neg (by omega), gI_uI, if_neg (by omega), a4 4 (by decide), gI_uI, if_neg (by omega)]
          exact h4
        · rw [gI_uI, if_neg (by omega), gI_s]
        · have r7 : ∀ j, gI (uI (uI s1 6 3 (nI (k + 1))) 6 5 (nI (rn (fun i => isBn (u i)) e (tkQ u e (sq u e k))))) 7 j = gI s1 7 j := fun j => by
            rw [gI_uI, if_neg (by omega), gI_uI, if_neg (by omega)]
          have r8 : ∀ j, gI (uI (uI s1 6 3 (nI (k + 1))) 6 5 (nI (rn (fun i => isBn (u i)) e (tkQ u e (sq u e k))))) 8 j = if j = k then nI (sq u e k) else gI s 8 j := fun j => by
            rw [gI_uI, if_neg (by omega), gI_uI, if_neg (by omega), show gI s1 8 j = gI (uI s 8 k (nI (sq u e k))) 8 j from congrFun (a1 8 (by decide) (by decide)) j, gI_uI]
            by_cases e0 : j = k
            · rw [if_pos ⟨rfl, e0⟩, if_pos e0]
            · rw [if_neg (fun z => e0 z.2), if_neg e0]
          have r9 : ∀ j, gL (uI (uI s1 6 3 (nI (k + 1))) 6 5 (nI (rn (fun i => isBn (u i)) e (tkQ u e (sq u e k))))) 9 j = gL s1 9 j := fun j => rfl
          unfold RwC
          rw [r7, r8, r9]
          by_cases e0 : j = k
          · subst e0
            have eK : kTk u e j = tkK u e (sq u e j) := if_pos h0
            rw [if_pos rfl, eK]
            exact ⟨a7, rfl, a8, a9⟩
          · rw [if_neg e0, (a6 j e0).1, (a6 j e0).2]
            have := hrw j (by omega)
            unfold RwC at this
            rw [show gI (uI s 8 k (nI (sq u e k))) 7 j = gI s 7 j by rw [gI_uI, if_neg (by omega)]]
            exact this
    · rw [if_pos ((nI_leI (by omega) (by omega)).mpr (by omega))]
      exact ow_some.mpr ⟨hf, h4, k, hk, hR, h3, hrw, Or.inl (by omega)⟩) FU (e - sq u e 0) (uI (uI (uI σ 6 3 0) 6 4 0) 6 5 (nI (rn (fun i => isBn (u i)) e 0))) (FU_big (by omega)) ⟨TF.wI (Or.inl rfl) (TF.wI (Or.inl rfl) (TF.wI (Or.inl rfl) TF.refl)), by rw [gI_uI, if_neg (by omega), gI_s], 0, rfl, by omega, fun j hj => absurd hj (Nat.not_lt_zero j), by rw [gI_uI, if_neg (by omega), gI_uI, if_neg (by omega), gI_s]; rfl, gI_s, fun j hj => absurd hj (Nat.not_lt_zero j)⟩
  rw [show iter (fun s : Wd => M_X6_takeAll_L28 (nI e) s) FU _ = some x from h1, bnd1_some]
  obtain ⟨hf, h4, k, hk, hR, h3, hrw, hend⟩ := h2
  show ∃ σ', M_X6_takeAll_J84 x (nI e) = some σ' ∧ _
  unfold M_X6_takeAll_J84
  simp only [lt_eq]
  rw [h3, chk_pos ((ib_nI (by omega)).mpr (by omega)), ix_nI (by omega)]
  have c3 : gI (uI x 8 k (nI e)) 6 3 = nI k := by rw [gI_uI, if_neg (by omega)]; exact h3
  rw [c3, chk_pos ((ib_nI (by omega)).mpr (by omega)), ix_nI (by omega)]
  have c3' : gI (uI (uI x 8 k (nI e)) 7 k 0) 6 3 = nI k := by rw [gI_uI, if_neg (by omega)]; exact c3
  rw [c3', chk_pos ((ib_nI (by omega)).mpr (by omega)), ix_nI (by omega)]
  refine ⟨_, rfl, TF.wL (TF.wI (Or.inr (Or.inl rfl)) (TF.wI (Or.inr (Or.inr rfl)) hf)), ?_, fun j hj hRj => ?_, k, hk, ?_, hR, hend⟩
  · rw [gI_uL, gI_uI, if_neg (by omega), gI_uI, if_neg (by omega)]
    exact h4
  · by_cases e0 : j = k
    · subst e0
      have hse : sq u e j = e := hend.elim id (fun z => by omega)
      have hK : kTk u e j = 0 := if_neg (by omega)
      unfold RwC
      rw [hK]
      refine ⟨by rw [gI_uL, gI_s]; rfl, ?_, fun z => absurd z (by decide), fun z => absurd z (by decide)⟩
      rw [gI_uL, gI_uI, if_neg (by omega), gI_s, hse]
    · have hlt : j < k := by
        rcases hend with z | z
        · refine Classical.byContradiction fun q => ?_
          have := hRj k (by omega)
          omega
        · omega
      have := hrw j hlt
      unfold RwC at this ⊢
      rw [gI_uL, gI_uI, if_neg (fun z => e0 z.2), gI_uI, if_neg (by omega), gI_uL, gI_uI, if_neg (by omega), gI_uI, if_neg (fun z => e0 z.2), gL_uL, if_neg (fun z => e0 z.2)]
      exact this
  · rw [gI_uL]; exact c3'
end CA2
