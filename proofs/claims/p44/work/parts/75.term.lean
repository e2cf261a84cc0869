/-! what an expression tells: the model's pile -/
theorem CM_tl {k : Nat} {v : Int32} {cs : List (Nat × Int32)} {a : Nat} {ks vs : Nat → Int32} (h : CM ((k, v) :: cs) a ks vs) : ks a = nI k ∧ (k < 2 → vs a = v) ∧ CM cs (a + 1) ks vs := by
  have h0 := h 0 (Nat.succ_pos _)
  refine ⟨h0.1, h0.2, fun i hi => ?_⟩
  have := h (i + 1) (Nat.succ_lt_succ hi)
  rw [show a + (i + 1) = a + 1 + i by omega] at this
  exact this
theorem m_j58 {τ : Wd} {E : Int32} {d i : Nat} {F : Nat → Int32} {u : Int32} (hd : d < 32) : M_X9_termOf_J58 (rI τ 24 F) E (nI d) (nI i) u (nI d) = some (.inl (nI (d + 1), nI (i + 1), rI τ 24 (upd F d u))) := by
  unfold M_X9_termOf_J58
  rw [chk_pos ((ib_nI (by omega)).mpr (by omega)), ix_nI (by omega), uI_rI, nI_1, nI_1]
  rfl
theorem m_j158 {τ : Wd} {E : Int32} {d i : Nat} {F : Nat → Int32} {u : Int32} (hd : d ≤ 32) (h2 : 2 ≤ d) : M_X9_termOf_J158 (rI τ 24 F) E (nI (d - 1)) (nI i) u (nI (d - 1) - 1) = some (.inl (nI (d - 1), nI (i + 1), rI τ 24 (upd F (d - 2) u))) := by
  unfold M_X9_termOf_J158
  rw [nI_pred1 (by omega), show d - 1 - 1 = d - 2 by omega, chk_pos ((ib_nI (by omega)).mpr (by omega)), ix_nI (by omega), uI_rI, nI_1]
  rfl
theorem m_j104 {τ : Wd} {E : Int32} {d i k : Nat} {F : Nat → Int32} {A B : Int32} (hd : d ≤ 32) (h2 : 2 ≤ d) (hk2 : 2 ≤ k) (hk5 : k ≤ 5) (hz : ¬ (k = 5 ∧ B = 0)) : M_X9_termOf_J104 (rI τ 24 F) E (nI (d - 1)) (nI i) (nI k) A B = some (.inl (nI (d - 1), nI (i + 1), rI τ 24 (upd F (d - 2) (opv k A B)))) := by
  unfold M_X9_termOf_J104 opv
  rcases (show k = 2 ∨ k = 3 ∨ k = 4 ∨ k = 5 by omega) with rfl | rfl | rfl | rfl
  · rw [if_neg (show ¬ nI 2 ≠ 2 by decide), m_j158 hd h2, if_pos rfl]
  · rw [if_pos (show nI 3 ≠ 2 by decide), if_neg (show ¬ nI 3 ≠ 3 by decide), m_j158 hd h2, if_neg (show ¬ 3 = 2 by decide), if_pos rfl]
  · rw [if_pos (show nI 4 ≠ 2 by decide), if_pos (show nI 4 ≠ 3 by decide), if_neg (show ¬ nI 4 ≠ 4 by decide), m_j158 hd h2, if_neg (show ¬ 4 = 2 by decide), if_neg (show ¬ 4 = 3 by decide), if_pos rfl]
  · have hB : ¬ B = 0 := fun z => hz ⟨rfl, z⟩
    rw [if_pos (show nI 5 ≠ 2 by decide), if_pos (show nI 5 ≠ 3 by decide), if_pos (show nI 5 ≠ 4 by decide), chk_pos hB, m_j158 hd h2, if_neg (show ¬ 5 = 2 by decide), if_neg (show ¬ 5 = 3 by decide), if_neg (show ¬ 5 = 4 by decide)]
theorem m_l5 {τ : Wd} {E d i k : Nat} {F : Nat → Int32} (hE : E ≤ 840) (hi : i < E) (hd : d ≤ 32) (h2 : 2 ≤ d) (hk2 : 2 ≤ k) (hk5 : k ≤ 5) (kK : gI τ 20 i = nI k) : M_X9_termOf_L5 (nI E) (nI d) (nI i) (rI τ 24 F) = if nI k ≠ 5 then M_X9_termOf_J104 (rI τ 24 F) (nI E) (nI (d - 1)) (nI i) (nI k) (F (d - 2)) (F (d - 1)) else if F (d - 1) ≠ 0 then M_X9_termOf_J104 (rI τ 24 F) (nI E) (nI (d - 1)) (nI i) (nI k) (F (d - 2)) (F (d - 1)) else some (.inr (.inl (rI τ 24 F))) := by
  have e1 : ¬ nI E ≤ nI i := fun z => by have := (nI_leI (by omega) (by omega)).mp z; omega
  have e2 : ib (nI i) 840 := (ib_nI (by omega)).mpr (by omega)
  have e3 : ix (nI i) = i := ix_nI (by omega)
  have e4 : gI (rI τ 24 F) 20 i = nI k := (gI_rI_n (by decide)).trans kK
  have e5 : (2 : Int32) ≤ nI k := (nI_leI (a := 2) (by decide) (by omega)).mpr hk2
  have e6 : nI d + -1 = nI (d - 1) := nI_m1 (by omega)
  have e7 : nI (d - 1) - 1 = nI (d - 2) := by rw [nI_pred1 (by omega), show d - 1 - 1 = d - 2 by omega]
  have e8 : ib (nI (d - 2)) 400 := (ib_nI (by omega)).mpr (by omega)
  have e9 : ib (nI (d - 1)) 400 := (ib_nI (by omega)).mpr (by omega)
  have e10 : ix (nI (d - 2)) = d - 2 := ix_nI (by omega)
  have e11 : ix (nI (d - 1)) = d - 1 := ix_nI (by omega)
  unfold M_X9_termOf_L5
  rw [if_neg e1, chk_pos e2, e3, lt_eq, e4, if_pos e5, lt_eq, e6, e7, chk_pos e8, e10, lt_eq, chk_pos e9, e11, lt_eq, gI_rI_s, gI_rI_s]
theorem m_op {τ : Wd} {E d i k : Nat} {F : Nat → Int32} (hE : E ≤ 840) (hi : i < E) (hd : d ≤ 32) (h2 : 2 ≤ d) (hk2 : 2 ≤ k) (hk5 : k ≤ 5) (kK : gI τ 20 i = nI k) : M_X9_termOf_L5 (nI E) (nI d) (nI i) (rI τ 24 F) = if k = 5 ∧ F (d - 1) = 0 then some (.inr (.inl (rI τ 24 F))) else some (.inl (nI (d - 1), nI (i + 1), rI τ 24 (upd F (d - 2) (opv k (F (d - 2)) (F (d - 1)))))) := by
  rw [m_l5 hE hi hd h2 hk2 hk5 kK]
  by_cases hz : k = 5 ∧ F (d - 1) = 0
  · rw [if_pos hz, hz.1, if_neg (show ¬ nI 5 ≠ 5 by decide), if_neg (fun z => z hz.2)]
  · rw [if_neg hz, m_j104 hd h2 hk2 hk5 hz]
    by_cases h5 : nI k ≠ 5
    · rw [if_pos h5]
    · rw [if_neg h5]
      have hk : k = 5 := (nI_eq (b := 5) (by omega) (by decide)).mp (Classical.byContradiction h5)
      rw [if_pos (fun z => hz ⟨hk, z⟩)]
theorem m_c0 {τ : Wd} {E d i : Nat} {F : Nat → Int32} {v : Int32} (hE : E ≤ 840) (hi : i < E) (hd : d < 32) (kK : gI τ 20 i = nI 0) (kV : gI τ 21 i = v) : M_X9_termOf_L5 (nI E) (nI d) (nI i) (rI τ 24 F) = some (.inl (nI (d + 1), nI (i + 1), rI τ 24 (upd F d v))) := by
  have e1 : ¬ nI E ≤ nI i := fun z => by have := (nI_leI (by omega) (by omega)).mp z; omega
  have e2 : ib (nI i) 840 := (ib_nI (by omega)).mpr (by omega)
  have e3 : ix (nI i) = i := ix_nI (by omega)
  have e4 : gI (rI τ 24 F) 20 i = nI 0 := (gI_rI_n (by decide)).trans kK
  have e5 : ¬ (2 : Int32) ≤ nI 0 := by decide
  have e6 : ¬ nI 0 ≠ 0 := by decide
  have e7 : gI (rI τ 24 F) 21 i = v := (gI_rI_n (by decide)).trans kV
  rw [← m_j58 (τ := τ) (E := nI E) hd]
  unfold M_X9_termOf_L5
  rw [if_neg e1, chk_pos e2, e3, lt_eq, e4, if_neg e5, if_neg e6, chk_pos e2, e7]
theorem m_c1 {τ : Wd} {E d i j : Nat} {F : Nat → Int32} (hE : E ≤ 840) (hi : i < E) (hd : d < 32) (hj : j < 9) (kK : gI τ 20 i = nI 1) (kV : gI τ 21 i = nI j) : M_X9_termOf_L5 (nI E) (nI d) (nI i) (rI τ 24 F) = some (.inl (nI (d + 1), nI (i + 1), rI τ 24 (upd F d (gI τ 23 j)))) := by
  have e1 : ¬ nI E ≤ nI i := fun z => by have := (nI_leI (by omega) (by omega)).mp z; omega
  have e2 : ib (nI i) 840 := (ib_nI (by omega)).mpr (by omega)
  have e3 : ix (nI i) = i := ix_nI (by omega)
  have e4 : gI (rI τ 24 F) 20 i = nI 1 := (gI_rI_n (by decide)).trans kK
  have e5 : ¬ (2 : Int32) ≤ nI 1 := by decide
  have e6 : nI 1 ≠ 0 := by decide
  have e7 : gI (rI τ 24 F) 21 i = nI j := (gI_rI_n (by decide)).trans kV
  have e8 : ib (nI j) 9 := (ib_nI (by omega)).mpr hj
  have e9 : ix (nI j) = j := ix_nI (by omega)
  have e10 : gI (rI τ 24 F) 23 j = gI τ 23 j := gI_rI_n (by decide)
  rw [← m_j58 (τ := τ) (E := nI E) hd]
  unfold M_X9_termOf_L5
  rw [if_neg e1, chk_pos e2, e3, lt_eq, e4, if_neg e5, if_pos e6, chk_pos e2, e7, chk_pos e8, e9, e10]
theorem vr_6 {e : Nat → Int32} {x s o : Int32} : vrE e x s o (nI 6) = x := if_pos (by decide)
theorem vr_7 {e : Nat → Int32} {x s o : Int32} : vrE e x s o (nI 7) = s := (if_neg (by decide)).trans (if_pos (by decide))
theorem vr_8 {e : Nat → Int32} {x s o : Int32} : vrE e x s o (nI 8) = o := (if_neg (by decide)).trans ((if_neg (by decide)).trans (if_pos (by decide)))
theorem m_run {nc E : Nat} {τ0 : Wd} {e : Nat → Int32} {x s o : Int32} (hnc : nc ≤ 6) (he : ∀ c, c < nc → gI τ0 23 c = e c) (h6 : gI τ0 23 6 = x) (h7 : gI τ0 23 7 = s) (h8 : gI τ0 23 8 = o) (hE4 : E ≤ 840) : ∀ (cs : List (Nat × Int32)) (i d : Nat) (f F : Nat → Int32) (fu : Nat), i + cs.length = E → CM cs i (gI τ0 20) (gI τ0 21) → wfC nc cs d → d ≤ 32 → (∀ j, j < d → F j = f j) → cs.length < fu → ∃ F', (∃ r, evA (vrE e x s o) cs f d = some r ∧ iter (fun z : Int32 × Int32 × Wd => M_X9_termOf_L5 (nI E) z.1 z.2.1 z.2.2) fu (nI d, nI i, rI τ0 24 F) = some (.inr (r, rI τ0 24 F'))) ∨ (evA (vrE e x s o) cs f d = none ∧ iter (fun z : Int32 × Int32 × Wd => M_X9_termOf_L5 (nI E) z.1 z.2.1 z.2.2) fu (nI d, nI i, rI τ0 24 F) = some (.inl (rI τ0 24 F'))) := by
  intro cs
  induction cs with
  | nil =>
    intro i d f F fu hi hC hwf hd hf hfu
    obtain ⟨m, rfl⟩ : ∃ m, fu = m + 1 := ⟨fu - 1, by omega⟩
    have hd1 : d = 1 := hwf
    subst hd1
    have hi : i = E := hi
    refine ⟨F, Or.inl ⟨f 0, rfl, it_x ?_⟩⟩
    show M_X9_termOf_L5 (nI E) (nI 1) (nI i) (rI τ0 24 F) = _
    unfold M_X9_termOf_L5
    rw [hi, if_pos ((nI_leI (by omega) (by omega)).mpr (Nat.le_refl _)), chk_pos (by decide), show ix (0 : Int32) = 0 from rfl, gI_rI_s, hf 0 (by omega)]
  | cons kv cs ih =>
    obtain ⟨k, v⟩ := kv
    intro i d f F fu hi hC hwf hd hf hfu
    obtain ⟨m, rfl⟩ : ∃ m, fu = m + 1 := ⟨fu - 1, by omega⟩
    have hi : i + (cs.length + 1) = E := hi
    have hfu : cs.length + 1 < m + 1 := hfu
    obtain ⟨k1, k2, k3⟩ := CM_tl hC
    have ev : evA (vrE e x s o) ((k, v) :: cs) f d = if k = 0 then evA (vrE e x s o) cs (upd f d v) (d + 1) else if k = 1 then evA (vrE e x s o) cs (upd f d (vrE e x s o v)) (d + 1) else if k = 5 ∧ f (d - 1) = 0 then none else evA (vrE e x s o) cs (upd f (d - 2) (opv k (f (d - 2)) (f (d - 1)))) (d - 1) := rfl
    have push : ∀ u, d < 32 → M_X9_termOf_L5 (nI E) (nI d) (nI i) (rI τ0 24 F) = some (.inl (nI (d + 1), nI (i + 1), rI τ0 24 (upd F d u))) → wfC nc cs (d + 1) → ∃ F', (∃ r, evA (vrE e x s o) cs (upd f d u) (d + 1) = some r ∧ iter (fun z : Int32 × Int32 × Wd => M_X9_termOf_L5 (nI E) z.1 z.2.1 z.2.2) (m + 1) (nI d, nI i, rI τ0 24 F) = some (.inr (r, rI τ0 24 F'))) ∨ (evA (vrE e x s o) cs (upd f d u) (d + 1) = none ∧ iter (fun z : Int32 × Int32 × Wd => M_X9_termOf_L5 (nI E) z.1 z.2.1 z.2.2) (m + 1) (nI d, nI i, rI τ0 24 F) = some (.inl (rI τ0 24 F'))) := fun u hdl st hw2 => by
      obtain ⟨F', z⟩ := ih (i + 1) (d + 1) (upd f d u) (upd F d u) m (by omega) k3 hw2 (by omega) (fun j hj => by
        by_cases hjd : j = d
        · subst hjd; rw [pk_us, pk_us]
        · rw [pk_un hjd, pk_un hjd]; exact hf j (by omega)) (by omega)
      refine ⟨F', ?_⟩
      rcases z with ⟨r, z1, z2⟩ | ⟨z1, z2⟩
      · exact Or.inl ⟨r, z1, (it_s st).trans z2⟩
      · exact Or.inr ⟨z1, (it_s st).trans z2⟩
    rcases hwf with ⟨rfl, hdl, hw2⟩ | ⟨rfl, hdl, ⟨j, rfl, hj⟩, hw2⟩ | ⟨hk2, hk5, hd2, hw2⟩
    · rw [ev, if_pos rfl]
      exact push v hdl (m_c0 hE4 (by omega) hdl k1 (k2 (by decide))) hw2
    · rw [ev, if_neg (show ¬ 1 = 0 by decide), if_pos rfl]
      have hj9 : j < 9 := by omega
      have e2 : gI τ0 23 j = vrE e x s o (nI j) := by
        rcases hj with hj | ⟨hj6, _⟩
        · rw [he j hj, vr_cell (by omega)]
        · rcases (show j = 6 ∨ j = 7 ∨ j = 8 by omega) with rfl | rfl | rfl
          · rw [vr_6]; exact h6
          · rw [vr_7]; exact h7
          · rw [vr_8]; exact h8
      refine push _ hdl ?_ hw2
      rw [m_c1 hE4 (by omega) hdl hj9 k1 (k2 (by decide)), e2]
    · rw [ev, if_neg (show ¬ k = 0 by omega), if_neg (show ¬ k = 1 by omega)]
      have e1 := m_op (τ := τ0) (F := F) hE4 (show i < E by omega) hd hd2 hk2 hk5 k1
      rw [hf (d - 1) (by omega), hf (d - 2) (by omega)] at e1
      by_cases hz : k = 5 ∧ f (d - 1) = 0
      · rw [if_pos hz] at e1 ⊢
        exact ⟨F, Or.inr ⟨rfl, it_x e1⟩⟩
      · rw [if_neg hz] at e1 ⊢
        obtain ⟨F', z⟩ := ih (i + 1) (d - 1) (upd f (d - 2) (opv k (f (d - 2)) (f (d - 1)))) (upd F (d - 2) (opv k (f (d - 2)) (f (d - 1)))) m (by omega) k3 hw2 (by omega) (fun j hj => by
          by_cases hjd : j = d - 2
          · subst hjd; rw [pk_us, pk_us]
          · rw [pk_un hjd, pk_un hjd]; exact hf j (by omega)) (by omega)
        refine ⟨F', ?_⟩
        rcases z with ⟨r, z1, z2⟩ | ⟨z1, z2⟩
        · exact Or.inl ⟨r, z1, (it_s e1).trans z2⟩
        · exact Or.inr ⟨z1, (it_s e1).trans z2⟩
theorem m_term {nc A0 : Nat} {τ : Wd} {e : Nat → Int32} {x s o : Int32} {cs : List (Nat × Int32)} (hnc : nc ≤ 6) (he : ∀ c, c < nc → gI τ 23 c = e c) (h6 : gI τ 23 6 = x) (h7 : gI τ 23 7 = s) (h8 : gI τ 23 8 = o) (h4 : A0 + cs.length ≤ 840) (hC : CM cs A0 (gI τ 20) (gI τ 21)) (hwf : wfC nc cs 0) : ∃ r F, (evA (vrE e x s o) cs (fun _ => 0) 0 = some r ∧ M_X9_termOf τ (nI A0) (nI (A0 + cs.length)) = some (r, rI τ 24 F)) ∨ (evA (vrE e x s o) cs (fun _ => 0) 0 = none ∧ M_X9_termOf τ (nI A0) (nI (A0 + cs.length)) = some (r, uI (rI τ 24 F) 0 40 1)) := by
  obtain ⟨F', z⟩ := m_run hnc he h6 h7 h8 h4 cs A0 0 (fun _ => 0) (τ.1 24) FU rfl hC hwf (by omega) (fun j hj => absurd hj (by omega)) (FU_big (by omega))
  rw [rI_self] at z
  unfold M_X9_termOf
  rw [show ((0 : Int32), nI A0, τ) = (nI 0, nI A0, τ) from rfl]
  rcases z with ⟨r, z1, z2⟩ | ⟨z1, z2⟩
  · rw [z2]
    exact ⟨r, F', Or.inl ⟨z1, rfl⟩⟩
  · rw [z2]
    exact ⟨0, F', Or.inr ⟨z1, rfl⟩⟩
/-- what the model keeps while it reckons -/
def Fm (τ τ' : Wd) : Prop := τ'.2 = τ.2 ∧ (∀ c, c ≠ 0 → c ≠ 23 → c ≠ 24 → τ'.1 c = τ.1 c) ∧ (∀ k, k ≠ 40 → gI τ' 0 k = gI τ 0 k)
theorem Fm.kq {τ τ' : Wd} (h : Fm τ τ') : KQ τ τ' := by
  refine ⟨⟨fun c hc => ?_, congrArg (fun z => z.1 7) h.1, fun k hk => h.2.2 k (by omega)⟩, h.2.1 26 (by decide) (by decide) (by decide), h.2.2 43 (by decide)⟩
  refine h.2.1 c (fun e => ?_) (fun e => ?_) (fun e => ?_) <;> (subst e; cases hc)
theorem Fm.trans {a b c : Wd} (h : Fm a b) (k : Fm b c) : Fm a c := ⟨k.1.trans h.1, fun x h1 h2 h3 => (k.2.1 x h1 h2 h3).trans (h.2.1 x h1 h2 h3), fun x h1 => (k.2.2 x h1).trans (h.2.2 x h1)⟩
theorem Fm.w {τ τ' : Wd} {c : Nat} {f : Nat → Int32} (hc : c = 23 ∨ c = 24) (h : Fm τ τ') : Fm τ (rI τ' c f) := h.trans ⟨rfl, fun x _ h2 h3 => rI_ne (by omega), fun k _ => gI_rI_n (by omega)⟩
theorem m_reckoned {T : Td} {t l : Nat} {g : Gs} {σ τ : Wd} (h : Qd T t l g σ τ) {w k : Nat} {e : Nat → Int32} (hw : w < gW g) (hk : k < 4) (hke : k < 3 ∨ tE T (gF g w) ≠ 0) (he : ∀ c, c < tC T → gI τ 29 c = e c) : ∃ r τ', M_X9_reckoned τ (nI w) (nI k) = some (r, τ') ∧ Fm τ τ' ∧ ((evP T g w e k = some r ∧ gI τ' 0 40 = gI τ 0 40) ∨ (evP T g w e k = none ∧ gI τ' 0 40 = 1)) := by
  obtain ⟨hW, hO, hP, hn5⟩ := q_bd h
  obtain ⟨ht, h4, hl, h18, hTI, hTC, hTM⟩ := gR_mid h.1
  have hI := h.2.2.2.2.1
  have hf := (hI.2.2.2.2.2.2.2.2.2.1 w hw).1
  have hF6 : tF T ≤ 6 := hTI.2.2.2.2.2.1
  have hC6 : tC T ≤ 6 := hTI.2.2.2.2.1
  obtain ⟨A0, a1, a2, a3, a4⟩ := (hTM.2.2 (gF g w) hf).2.2.2 k hk hke
  have hwf := (hTI.2.2.2.2.2.2 (gF g w) hf).2.2.2 k hk hke
  have q := cp_loop (σ0 := τ) (a := 29) (b := 23) (sp := 0) (dp := 0) (N := 6) (body := fun s : Int32 × Wd => M_X9_reckoned_L22 (nI w) (nI (5 * (6 * l + gF g w) + k)) s.1 s.2) (Or.inl (by decide)) (by decide) (fun i s hi hc _ => by
    show M_X9_reckoned_L22 (nI w) (nI (5 * (6 * l + gF g w) + k)) (nI i) s = _
    unfold M_X9_reckoned_L22
    by_cases h0 : 6 ≤ i
    · rw [if_pos (show (6 : Int32) ≤ nI i from (nI_leI (a := 6) (by decide) (by omega)).mpr h0), if_pos h0]
    · rw [if_neg (show ¬ (6 : Int32) ≤ nI i from fun z => h0 ((nI_leI (a := 6) (by decide) (by omega)).mp z)), if_neg h0, chk_pos ((ib_nI (by omega)).mpr (by omega)), chk_pos ((ib_nI (by omega)).mpr (by omega)), ix_nI (by omega), nI_1, Nat.zero_add]
      rfl)
  have f1 : Fm τ (rI τ 23 (va_cpy (τ.1 29) (τ.1 23) 0 0 6)) := Fm.w (Or.inl rfl) ⟨rfl, fun _ _ _ _ => rfl, fun _ _ => rfl⟩
  have f2 : Fm τ (uI (rI τ 23 (va_cpy (τ.1 29) (τ.1 23) 0 0 6)) 23 6 (iX g w)) := f1.w (Or.inl rfl)
  have f3 : Fm τ (uI (uI (rI τ 23 (va_cpy (τ.1 29) (τ.1 23) 0 0 6)) 23 6 (iX g w)) 23 7 (nI (gS g w))) := f2.w (Or.inl rfl)
  have f4 : Fm τ (uI (uI (uI (rI τ 23 (va_cpy (τ.1 29) (τ.1 23) 0 0 6)) 23 6 (iX g w)) 23 7 (nI (gS g w))) 23 8 (nI (gN g w))) := f3.w (Or.inl rfl)
  have v3 : (30 : Int32) * nI l + 5 * nI (gF g w) + nI k = nI (5 * (6 * l + gF g w) + k) := by
    rw [show (30 : Int32) = nI 30 from rfl, show (5 : Int32) = nI 5 from rfl, pk_mul, pk_mul, nI_add, nI_add]
    congr 1
    omega
  obtain ⟨r, F, z⟩ := m_term (τ := uI (uI (uI (rI τ 23 (va_cpy (τ.1 29) (τ.1 23) 0 0 6)) 23 6 (iX g w)) 23 7 (nI (gS g w))) 23 8 (nI (gN g w))) (nc := tC T) (A0 := A0) (e := e) (x := iX g w) (s := nI (gS g w)) (o := nI (gN g w)) (cs := tX T (gF g w) k) hC6 (fun c hc => by
    rw [gI_uI, if_neg (by omega), gI_uI, if_neg (by omega), gI_uI, if_neg (by omega), gI_rI_s, cpy_at (by omega)]
    exact he c hc) (by rw [gI_uI, if_neg (by decide), gI_uI, if_neg (by decide), gI_uI, if_pos ⟨rfl, rfl⟩]) (by rw [gI_uI, if_neg (by decide), gI_uI, if_pos ⟨rfl, rfl⟩]) (by rw [gI_uI, if_pos ⟨rfl, rfl⟩]) a3.1 (by
    rw [show gI (uI (uI (uI (rI τ 23 (va_cpy (τ.1 29) (τ.1 23) 0 0 6)) 23 6 (iX g w)) 23 7 (nI (gS g w))) 23 8 (nI (gN g w))) 20 = gI τ 20 from f4.2.1 20 (by decide) (by decide) (by decide), show gI (uI (uI (uI (rI τ 23 (va_cpy (τ.1 29) (τ.1 23) 0 0 6)) 23 6 (iX g w)) 23 7 (nI (gS g w))) 23 8 (nI (gN g w))) 21 = gI τ 21 from f4.2.1 21 (by decide) (by decide) (by decide)]
    exact a4) hwf
  have hu : M_X9_reckoned τ (nI w) (nI k) = bnd2 (M_X9_termOf (uI (uI (uI (rI τ 23 (va_cpy (τ.1 29) (τ.1 23) 0 0 6)) 23 6 (iX g w)) 23 7 (nI (gS g w))) 23 8 (nI (gN g w))) (nI A0) (nI (A0 + (tX T (gF g w) k).length))) fun r103 s_103 => some (r103, s_103) := by
    unfold M_X9_reckoned
    rw [(q_of h hw).1, bnd1_some, h18]
    simp only [lt_eq]
    rw [v3, show ((0 : Int32), τ) = (nI 0, τ) from rfl, q, bnd1_some]
    show bnd1 (M_X9_ofWrite (rI τ 23 (va_cpy (τ.1 29) (τ.1 23) 0 0 6)) (nI w) 1) _ = _
    rw [(q_of (h.kq f1.kq) hw).2.1, bnd1_some, chk_pos (by decide), show ix (6 : Int32) = 6 from rfl, (q_of (h.kq f2.kq) hw).2.2.2, bnd1_some, chk_pos (by decide), show ix (7 : Int32) = 7 from rfl, (q_of (h.kq f3.kq) hw).2.2.1, bnd1_some, chk_pos (by decide), show ix (8 : Int32) = 8 from rfl, nI_1, chk_pos ((ib_nI (by omega)).mpr (by omega)), chk_pos ((ib_nI (by omega)).mpr (by omega)), ix_nI (by omega), ix_nI (by omega)]
    rw [show ∀ j, gI (uI (uI (uI (rI τ 23 (va_cpy (τ.1 29) (τ.1 23) 0 0 6)) 23 6 (iX g w)) 23 7 (nI (gS g w))) 23 8 (nI (gN g w))) 18 j = gI τ 18 j from fun j => congrFun (f4.2.1 18 (by decide) (by decide) (by decide)) j, show ∀ j, gI (uI (uI (uI (rI τ 23 (va_cpy (τ.1 29) (τ.1 23) 0 0 6)) 23 6 (iX g w)) 23 7 (nI (gS g w))) 23 8 (nI (gN g w))) 18 j = gI τ 18 j from fun j => congrFun (f4.2.1 18 (by decide) (by decide) (by decide)) j, a1, a2]
  rw [hu]
  rcases z with ⟨z1, z2⟩ | ⟨z1, z2⟩
  · rw [z2, bnd2_some]
    exact ⟨_, _, rfl, f4.w (Or.inr rfl), Or.inl ⟨z1, by rw [gI_rI_n (by decide)]; rfl⟩⟩
  · rw [z2, bnd2_some]
    refine ⟨_, _, rfl, (f4.w (f := F) (Or.inr rfl)).trans ⟨rfl, fun c h1 _ _ => rI_ne h1, fun k h1 => by rw [gI_uI, if_neg (fun z => h1 z.2)]⟩, Or.inr ⟨z1, by rw [gI_uI, if_pos ⟨rfl, rfl⟩]⟩⟩
