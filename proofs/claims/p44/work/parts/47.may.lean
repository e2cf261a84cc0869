/-! what a session may ask and make -/
theorem bh_loop {body : Int32 → Option (Int32 ⊕ (Unit ⊕ Int32))} {n : Nat} {v F : Nat → Nat} (hn : n < 100) (hb : ∀ i, i ≤ n → body (nI i) = if n ≤ i then some (.inr (.inl ())) else if F i ≤ v i then some (.inl (nI (i + 1))) else some (.inr (.inr 1))) : ∃ r : Int32, (r = 0 ∨ r = 1) ∧ (r = 1 ↔ ∃ o, o < n ∧ v o < F o) ∧ bnd1 (iter body FU (0 : Int32)) (sx (un0 (some (0 : Int32))) (fun q => some q)) = some r := by
  obtain ⟨x, h1, r, h2, h3, h4⟩ := ow_iter (body := body) (Q := fun x => ∃ r : Int32, (r = 0 ∨ r = 1) ∧ (r = 1 ↔ ∃ o, o < n ∧ v o < F o) ∧ sx (un0 (some (0 : Int32))) (fun q => some q) x = some r) (fun k s => ∃ i, i ≤ n ∧ k = n - i ∧ s = nI i ∧ ∀ o, o < i → F o ≤ v o) (fun k s ⟨i, hi, hk, hs, hj⟩ => by
    subst hs
    rw [hb i hi]
    by_cases h0 : n ≤ i
    · rw [if_pos h0]
      exact ow_some.mpr ⟨0, Or.inl rfl, ⟨fun z => absurd z (by decide), fun ⟨o, z1, z2⟩ => by have := hj o (by omega); omega⟩, rfl⟩
    · rw [if_neg h0]
      by_cases h1 : F i ≤ v i
      · rw [if_pos h1]
        refine ow_some.mpr ⟨n - (i + 1), by omega, i + 1, by omega, rfl, rfl, fun o ho => ?_⟩
        by_cases hoi : o = i
        · subst hoi; exact h1
        · exact hj o (by omega)
      · rw [if_neg h1]
        exact ow_some.mpr ⟨1, Or.inr rfl, ⟨fun _ => ⟨i, by omega, by omega⟩, fun _ => rfl⟩, rfl⟩) FU n (0 : Int32) (FU_big (by omega)) ⟨0, Nat.zero_le _, rfl, rfl, fun o ho => absurd ho (by omega)⟩
  exact ⟨r, h2, h3, by rw [h1, bnd1_some]; exact h4⟩
section QZ
variable {T : Td} {t l : Nat} {g : Gs} {σ τ : Wd}
theorem c_breaks (h : Qd T t l g σ τ) {s c b : Nat} {F : Nat → Nat} {m : Int32} (hs : s < 4) (hc : c < 5) (hb : b + s * 5 + 5 ≤ 96) (hF : ∀ o, o < 5 → F o ≤ 60 ∧ σ.2.1 29 (b + s * 5 + o) = lN (F o)) : ∃ r : Int32, (r = 0 ∨ r = 1) ∧ (r = 1 ↔ lg_cmp (lN (gQ g s) &&& m.toInt64) 0 ≠ 0 ∧ ∃ o, o < tN T ∧ vecN g c o (gW g) < F o) ∧ M_X1_breaks σ (nI s) (nI c) m (nI b) = some r := by
  obtain ⟨hW, hO, hP, hn⟩ := q_bd h
  have hI := h.2.2.2.2.1
  obtain ⟨r, r1, r2, r3⟩ := bh_loop (body := fun x : Int32 => M_X1_breaks_L22 σ (nI s) (nI c) (nI b) x) (n := tN T) (v := fun o => vecN g c o (gW g)) (F := F) (by omega) (fun i hi => by
    show M_X1_breaks_L22 σ (nI s) (nI c) (nI b) (nI i) = _
    unfold M_X1_breaks_L22
    rw [q_copies h, bnd1_some]
    by_cases h0 : tN T ≤ i
    · rw [if_pos ((nI_leI (by omega) (by omega)).mpr h0), if_pos h0]
    · have hv := vecN_le (c := c) (o := i) hI (gW g) (Nat.le_refl _)
      have hf := hF i (by omega)
      rw [if_neg (fun z => h0 ((nI_leI (by omega) (by omega)).mp z)), if_neg h0, c_vec h hc (by omega), bnd1_some, c_svector (by omega), bnd1_some, show (gL σ 29 (b + s * 5 + i)).toInt32 = nI (F i) from lN32 hf.2, nI_1]
      simp only [lt_eq]
      by_cases h1 : F i ≤ vecN g c i (gW g)
      · rw [if_pos ((nI_leI (by omega) (by omega)).mpr h1), if_pos h1]
      · rw [if_neg (fun z => h1 ((nI_leI (by omega) (by omega)).mp z)), if_neg h1])
  unfold M_X1_breaks
  rw [show (44 : Int32) = nI 44 from rfl, nI_add, chk_pos ((ib_nI (by omega)).mpr (by omega)), ix_nI (by omega), show gL σ 29 (44 + s) = lN (gQ g s) from (h.2.1.2.2.2 s hs).1]
  by_cases hq : lg_cmp (lN (gQ g s) &&& m.toInt64) 0 ≠ 0
  · rw [if_pos hq]
    exact ⟨r, r1, r2.trans ⟨fun z => ⟨hq, z⟩, fun z => z.2⟩, r3⟩
  · rw [if_neg hq]
    exact ⟨0, Or.inl rfl, ⟨fun z => absurd z (by decide), fun z => absurd z.1 hq⟩, rfl⟩
theorem m_behind (h : Qd T t l g σ τ) {c b : Nat} {F : Nat → Nat} (hc : c < 5) (hb : b + 5 ≤ 770) (hF : ∀ o, o < 5 → F o ≤ 60 ∧ gI τ 26 (b + o) = nI (F o)) : ∃ r : Int32, (r = 0 ∨ r = 1) ∧ (r = 1 ↔ ∃ o, o < tN T ∧ vecN g c o (gW g) < F o) ∧ M_X9_isBehind τ (nI c) (nI b) = some r := by
  obtain ⟨hW, hO, hP, hn⟩ := q_bd h
  obtain ⟨k1, k2, k3⟩ := q_18 h
  have hI := h.2.2.2.2.1
  exact bh_loop (body := fun x : Int32 => M_X9_isBehind_L2 τ (nI c) (nI b) x) (n := tN T) (v := fun o => vecN g c o (gW g)) (F := F) (by omega) (fun i hi => by
    show M_X9_isBehind_L2 τ (nI c) (nI b) (nI i) = _
    unfold M_X9_isBehind_L2
    rw [k1, chk_pos ((ib_nI (by omega)).mpr k2), ix_nI (by omega), k3]
    by_cases h0 : tN T ≤ i
    · rw [if_pos ((nI_leI (by omega) (by omega)).mpr h0), if_pos h0]
    · have hv := vecN_le (c := c) (o := i) hI (gW g) (Nat.le_refl _)
      have hf := hF i (by omega)
      rw [if_neg (fun z => h0 ((nI_leI (by omega) (by omega)).mp z)), if_neg h0, m_vec h hc (by omega), bnd1_some, nI_add, chk_pos ((ib_nI (by omega)).mpr (by omega)), ix_nI (by omega), hf.2, nI_1]
      simp only [lt_eq]
      by_cases h1 : F i ≤ vecN g c i (gW g)
      · rw [if_pos ((nI_leI (by omega) (by omega)).mpr h1), if_pos h1]
      · rw [if_neg (fun z => h1 ((nI_leI (by omega) (by omega)).mp z)), if_neg h1])
theorem q_sess (h : Qd T t l g σ τ) {s : Nat} (hs : s < 4) : gQ g s ≤ 15 ∧ gI τ 26 (50 + 14 * s) = nI (gQ g s) ∧ (∀ o, o < 5 → gE g s o ≤ 60 ∧ σ.2.1 29 (56 + s * 5 + o) = lN (gE g s o)) ∧ (∀ o, o < 5 → gU g s o ≤ 60 ∧ σ.2.1 29 (76 + s * 5 + o) = lN (gU g s o)) ∧ (∀ o, o < 5 → gE g s o ≤ 60 ∧ gI τ 26 (50 + 14 * s + 3 + o) = nI (gE g s o)) ∧ (∀ o, o < 5 → gU g s o ≤ 60 ∧ gI τ 26 (50 + 14 * s + 8 + o) = nI (gU g s o)) := by
  have q := h.2.2.2.2.1.2.2.2.2.2.2.2.2.2.2.2.1 s hs
  have c := (h.2.1.2.2.2 s hs).2.2.2
  have m := h.2.2.2.1.2.2.2.1 s hs
  refine ⟨q.1, m.1, fun o ho => ⟨(q.2 o).1, ?_⟩, fun o ho => ⟨(q.2 o).2, ?_⟩, fun o ho => ⟨(q.2 o).1, (m.2.2.2 o ho).1⟩, fun o ho => ⟨(q.2 o).2, (m.2.2.2 o ho).2⟩⟩
  · rw [show 56 + s * 5 + o = 56 + 5 * s + o by omega]
    exact (c o ho).1
  · rw [show 76 + s * 5 + o = 76 + 5 * s + o by omega]
    exact (c o ho).2
theorem bt_1 : ∀ q : Fin 16, lg_cmp (lN q.val &&& (1 : Int32).toInt64) 0 ≠ 0 ↔ q.val % 2 = 1 := by decide
theorem bt_2 : ∀ q : Fin 16, lg_cmp (lN q.val &&& (2 : Int32).toInt64) 0 ≠ 0 ↔ q.val / 2 % 2 = 1 := by decide
theorem bt_4 : ∀ q : Fin 16, lg_cmp (lN q.val &&& (4 : Int32).toInt64) 0 ≠ 0 ↔ q.val / 4 % 2 = 1 := by decide
theorem bt_8 : ∀ q : Fin 16, lg_cmp (lN q.val &&& (8 : Int32).toInt64) 0 ≠ 0 ↔ q.val / 8 = 1 := by decide
end QZ
