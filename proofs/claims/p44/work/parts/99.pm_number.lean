/-! a number told -/
/-- the class's end of a number told -/
def tlC (σ : Wd) (v1 r33 r41 : Int32) : Option Wd := if v1 ≠ (100 : Int32) then (if v1 ≠ (101 : Int32) then (chk (famT (gR σ 2 6)) (lt (uI σ (gR σ 2 6) 2 r41) fun s_122 => some s_122)) else (chk (famT (gR σ 2 6)) (lt (uI σ (gR σ 2 6) 1 r41) fun s_100 => if r41 < (5 : Int32) then (some s_100) else (bnd1 (M_X3_failLater s_100 (5 : Int32) r33) fun s_111 => some s_111)))) else (chk (famT (gR σ 2 6)) (lt (uI σ (gR σ 2 6) 0 r41) fun s_67 => if r41 < (1 : Int32) then (M_X3_tellNumber_J80 s_67 r33) else (if r41 ≤ (5 : Int32) then (some s_67) else (M_X3_tellNumber_J80 s_67 r33))))
/-- kinds of numbers: the least, the most, the class's place, the model's row -/
def nK (K lo hi j R : Nat) : Prop := (K = 20 ∧ lo = 1 ∧ hi = 5 ∧ j = 0 ∧ R = 10) ∨ (K = 21 ∧ lo = 0 ∧ hi = 4 ∧ j = 1 ∧ R = 11) ∨ (K = 27 ∧ lo = 0 ∧ hi = 9999 ∧ j = 2 ∧ R = 19)
theorem F_tl {g : Nat} {σ0 σ : Wd} (h : CFT g σ0 σ) (v1 r33 r41 : Int32) : ∃ σ', tlC σ v1 r33 r41 = some σ' ∧ CFT g σ0 σ' := by
  have hg := h.2.2.2.2.2.1
  have h6 := h.2.2.2.2.1
  unfold tlC M_X3_tellNumber_J80
  rw [h6, chk_pos hg, chk_pos hg, chk_pos hg]
  simp only [lt_eq]
  have w : ∀ j, j < 3 → CFT g σ0 (uI σ g j r41) := fun j hj => CFT.wI (by omega) (fun z => by omega) (fun z => by omega) (fun z => by omega) h
  by_cases a1 : v1 ≠ 100
  · rw [if_pos a1]
    by_cases a2 : v1 ≠ 101
    · rw [if_pos a2]
      exact ⟨_, rfl, w 2 (by decide)⟩
    · rw [if_neg a2]
      by_cases a3 : r41 < 5
      · rw [if_pos a3]
        exact ⟨_, rfl, w 1 (by decide)⟩
      · rw [if_neg a3]
        obtain ⟨σ', t1, t2⟩ := F_later (w 1 (by decide)) 5 r33
        exact ⟨σ', by rw [t1, bnd1_some], t2⟩
  · rw [if_neg a1]
    obtain ⟨σ', t1, t2⟩ := F_later (w 0 (by decide)) 5 r33
    by_cases a3 : r41 < 1
    · rw [if_pos a3, t1, bnd1_some]
      exact ⟨σ', rfl, t2⟩
    · rw [if_neg a3]
      by_cases a4 : r41 ≤ 5
      · rw [if_pos a4]
        exact ⟨_, rfl, w 0 (by decide)⟩
      · rw [if_neg a4, t1, bnd1_some]
        exact ⟨σ', rfl, t2⟩
theorem tl_ok {g K lo hi j R fl n p : Nat} {σ : Wd} (hK : nK K lo hi j R) (hg : g = 10 ∨ g = 19) (h6 : gR σ 2 6 = g) (h9 : gI σ 2 9 = nI fl) (hf : fl ≤ 6) (hn : n ≤ 9999) : tlC σ (nI (ck K)) (nI p) (nI n) = some (if lo ≤ n ∧ n ≤ hi then uI σ g j (nI n) else ltC (uI σ g j (nI n)) fl 5 p) := by
  have h9' : ∀ j, gI (uI σ g j (nI n)) 2 9 = nI fl := fun j => by rw [gI_uI, if_neg (by omega)]; exact h9
  have hL : ∀ j, M_X3_failLater (uI σ g j (nI n)) 5 (nI p) = some (ltC (uI σ g j (nI n)) fl 5 p) := fun j => c_late (f := 5) (h9' j) hf
  unfold tlC M_X3_tellNumber_J80
  rw [h6, chk_pos hg, chk_pos hg, chk_pos hg]
  simp only [lt_eq]
  rcases hK with ⟨rfl, rfl, rfl, rfl, rfl⟩ | ⟨rfl, rfl, rfl, rfl, rfl⟩ | ⟨rfl, rfl, rfl, rfl, rfl⟩
  · rw [if_neg (show ¬ nI (ck 20) ≠ 100 by decide), hL, bnd1_some]
    by_cases a : n < 1
    · rw [if_pos (show nI n < 1 from (nI_ltI (b := 1) (by omega) (by omega)).mpr a), if_neg (by omega)]
    · rw [if_neg (show ¬ nI n < 1 from fun z => a ((nI_ltI (b := 1) (by omega) (by omega)).mp z))]
      by_cases b : n ≤ 5
      · rw [if_pos (show nI n ≤ 5 from (nI_leI (b := 5) (by omega) (by omega)).mpr b), if_pos (by omega)]
      · rw [if_neg (show ¬ nI n ≤ 5 from fun z => b ((nI_leI (b := 5) (by omega) (by omega)).mp z)), if_neg (by omega)]
  · rw [if_pos (show nI (ck 21) ≠ 100 by decide), if_neg (show ¬ nI (ck 21) ≠ 101 by decide), hL, bnd1_some]
    by_cases a : n < 5
    · rw [if_pos (show nI n < 5 from (nI_ltI (b := 5) (by omega) (by omega)).mpr a), if_pos (by omega)]
    · rw [if_neg (show ¬ nI n < 5 from fun z => a ((nI_ltI (b := 5) (by omega) (by omega)).mp z)), if_neg (by omega)]
  · rw [if_pos (show nI (ck 27) ≠ 100 by decide), if_pos (show nI (ck 27) ≠ 101 by decide), if_pos (by omega)]
