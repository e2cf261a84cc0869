/-! a write done by the model; logs done on both sides -/
def Fo (i : Nat) (τ τ' : Wd) : Prop := τ'.2 = τ.2 ∧ (∀ c, c ≠ 0 → c ≠ 23 → c ≠ 24 → c ≠ 29 → c ≠ 31 → τ'.1 c = τ.1 c) ∧ (∀ k, k ≠ 40 → gI τ' 0 k = gI τ 0 k) ∧ (∀ j, j ≠ i → gI τ' 31 j = gI τ 31 j)
theorem Fo.kq {i : Nat} {τ τ' : Wd} (h : Fo i τ τ') : KQ τ τ' := by
  refine ⟨⟨fun c hc => ?_, congrArg (fun z => z.1 7) h.1, fun k hk => h.2.2.1 k (by omega)⟩, h.2.1 26 (by decide) (by decide) (by decide) (by decide) (by decide), h.2.2.1 43 (by decide)⟩
  refine h.2.1 c (fun e => ?_) (fun e => ?_) (fun e => ?_) (fun e => ?_) (fun e => ?_) <;> (subst e; cases hc)
theorem Fo.m {i : Nat} {a b c : Wd} (h : Fo i a b) (k : Fm b c) : Fo i a c := ⟨k.1.trans h.1, fun x h1 h2 h3 h4 h5 => (k.2.1 x h1 h2 h3).trans (h.2.1 x h1 h2 h3 h4 h5), fun x h1 => (k.2.2 x h1).trans (h.2.2.1 x h1), fun j hj => (congrFun (k.2.1 31 (by decide) (by decide) (by decide)) j).trans (h.2.2.2 j hj)⟩
def Pm (T : Td) (i ch : Nat) (e' : Nat → Int32) (τ τ' : Wd) : Prop := Fo i τ τ' ∧ gI τ' 31 i = chI ch ∧ ∀ c, c < tC T → gI τ' 29 c = e' c
theorem m_doneOne {T : Td} {t l : Nat} {g : Gs} {σ τ : Wd} (h : Qd T t l g σ τ) {w i : Nat} {e : Nat → Int32} (hw : w < gW g) (hi : i < 60) (he : ∀ c, c < tC T → gI τ 29 c = e c) : ∃ τ', M_X9_doneOne τ (nI w) (nI i) = some ((doS T g w e).1, τ') ∧ Pm T i (doS T g w e).2.1 (doS T g w e).2.2 τ τ' := by
  obtain ⟨hW, hO, hP, hn5⟩ := q_bd h
  obtain ⟨ht, h4, hl, h18, hTI, hTC, hTM⟩ := gR_mid h.1
  have hI := h.2.2.2.2.1
  have hf := (hI.2.2.2.2.2.2.2.2.2.1 w hw).1
  have hF6 : tF T ≤ 6 := hTI.2.2.2.2.2.1
  have hC6 : tC T ≤ 6 := hTI.2.2.2.2.1
  obtain ⟨x1, x2, x3, _⟩ := hTM.2.2 (gF g w) hf
  obtain ⟨y1, y2, y3, _⟩ := hTI.2.2.2.2.2.2 (gF g w) hf
  have f0 : Fo i τ (uI (uI τ 0 40 0) 31 i (-1)) := ⟨rfl, fun c h1 _ _ _ h5 => (rI_ne h5).trans (rI_ne h1), fun k hk => by rw [gI_uI, if_neg (by omega), gI_uI, if_neg (fun z => hk z.2)], fun j hj => by rw [gI_uI, if_neg (fun z => hj z.2), gI_uI, if_neg (by omega)]⟩
  have g40 : gI (uI (uI τ 0 40 0) 31 i (-1)) 0 40 = 0 := by rw [gI_uI, if_neg (by omega), gI_uI, if_pos ⟨rfl, rfl⟩]
  have g31 : gI (uI (uI τ 0 40 0) 31 i (-1)) 31 i = -1 := by rw [gI_uI, if_pos ⟨rfl, rfl⟩]
  have g29 : ∀ c, gI (uI (uI τ 0 40 0) 31 i (-1)) 29 c = gI τ 29 c := fun c => by rw [gI_uI, if_neg (by omega), gI_uI, if_neg (by omega)]
  obtain ⟨r0, τ1, p1, p2, p3⟩ := m_reckoned (h.kq f0.kq) (k := 0) (e := e) hw (by decide) (Or.inl (by decide)) (fun c hc => (g29 c).trans (he c hc))
  have f1 := f0.m p2
  have c1 : ∀ c, c < tC T → gI τ1 29 c = e c := fun c hc => (congrFun (p2.2.1 29 (by decide) (by decide) (by decide)) c).trans ((g29 c).trans (he c hc))
  have d1 : gI τ1 31 i = -1 := (congrFun (p2.2.1 31 (by decide) (by decide) (by decide)) i).trans g31
  obtain ⟨r1, τ2, u1, u2, u3⟩ := m_reckoned (h.kq f1.kq) (k := 1) (e := e) hw (by decide) (Or.inl (by decide)) c1
  have f2 := f1.m u2
  have c2 : ∀ c, c < tC T → gI τ2 29 c = e c := fun c hc => (congrFun (u2.2.1 29 (by decide) (by decide) (by decide)) c).trans (c1 c hc)
  have d2 : gI τ2 31 i = -1 := (congrFun (u2.2.1 31 (by decide) (by decide) (by decide)) i).trans d1
  have v3 : (6 : Int32) * nI l + nI (gF g w) = nI (6 * l + gF g w) := by rw [show (6 : Int32) = nI 6 from rfl, pk_mul, nI_add]
  have cv : ib (nI (6 * l + gF g w)) 12 := (ib_nI (by omega)).mpr (by omega)
  have xv : ix (nI (6 * l + gF g w)) = 6 * l + gF g w := ix_nI (by omega)
  have ci : ib (nI i) 60 := (ib_nI (by omega)).mpr hi
  have xi : ix (nI i) = i := ix_nI (by omega)
  have hu : M_X9_doneOne τ (nI w) (nI i) = if gI τ2 0 40 = 0 then (if gI τ2 15 (6 * l + gF g w) ≠ 13 then (if r0 ≠ r1 then M_X9_doneOne_J90 τ2 (nI w) (nI i) (nI (6 * l + gF g w)) 0 else M_X9_doneOne_J90 τ2 (nI w) (nI i) (nI (6 * l + gF g w)) 1) else (if r1 ≤ r0 then M_X9_doneOne_J90 τ2 (nI w) (nI i) (nI (6 * l + gF g w)) 0 else M_X9_doneOne_J90 τ2 (nI w) (nI i) (nI (6 * l + gF g w)) 1)) else some (3, τ2) := by
    unfold M_X9_doneOne
    rw [(q_of h hw).1, bnd1_some, h18, v3, lt_eq, lt_eq, chk_pos ci, xi, lt_eq, show M_X9_reckoned (uI (uI τ 0 40 0) 31 i (-1)) (nI w) 0 = some (r0, τ1) from p1, bnd2_some, show M_X9_reckoned τ1 (nI w) 1 = some (r1, τ2) from u1, bnd2_some, chk_pos cv, xv]
  have fin3 : ∀ τ3 : Wd, Fo i τ τ3 → gI τ3 31 i = -1 → (∀ c, c < tC T → gI τ3 29 c = e c) → Pm T i 0 e τ τ3 := fun τ3 k1 k2 k3 => ⟨k1, k2, k3⟩
  have e15 : gI τ2 15 (6 * l + gF g w) = (if tL T (gF g w) = 1 then 13 else 5) := (congrFun (f2.2.1 15 (by decide) (by decide) (by decide) (by decide) (by decide)) _).trans x1
  have e16 : ∀ τ3, Fm τ2 τ3 → gI τ3 16 (6 * l + gF g w) = nI (tT T (gF g w)) := fun τ3 k => (congrFun ((f2.m k).2.1 16 (by decide) (by decide) (by decide) (by decide) (by decide)) _).trans x2
  have e17 : ∀ τ3, Fm τ2 τ3 → gI τ3 17 (6 * l + gF g w) = (if tE T (gF g w) = 0 then -1 else nI (tE T (gF g w) - 1)) := fun τ3 k => (congrFun ((f2.m k).2.1 17 (by decide) (by decide) (by decide) (by decide) (by decide)) _).trans x3
  have fm0 : Fm τ2 τ2 := ⟨rfl, fun _ _ _ _ => rfl, fun _ _ => rfl⟩
  -- the cell set anew
  have j159 : ∀ (τ3 : Wd) (v6 v7 : Int32) (tg : Nat), Fo i τ τ3 → (∀ c, c < tC T → gI τ3 29 c = e c) → tg < tC T → ∃ τ', M_X9_doneOne_J159 τ3 (nI i) v6 v7 (nI tg) (nI i) = some ((if v6 = 0 then 1 else 0), τ') ∧ Pm T i (tg + 1) (upd e tg v7) τ τ' := fun τ3 v6 v7 tg k1 k3 htg => by
    have g1 : gI (uI τ3 31 i (nI tg)) 31 i = nI tg := by rw [gI_uI, if_pos ⟨rfl, rfl⟩]
    have ctg : ib (nI tg) 6 := (ib_nI (by omega)).mpr (by omega)
    have xtg : ix (nI tg) = tg := ix_nI (by omega)
    unfold M_X9_doneOne_J159
    rw [chk_pos ci, xi, lt_eq, chk_pos ci, g1, chk_pos ctg, xtg, lt_eq]
    refine ⟨uI (uI τ3 31 i (nI tg)) 29 tg v7, ?_, ⟨k1.1, fun c q1 q2 q3 q4 q5 => (rI_ne q4).trans ((rI_ne q5).trans (k1.2.1 c q1 q2 q3 q4 q5)), fun k hk => by rw [gI_uI, if_neg (by omega), gI_uI, if_neg (by omega)]; exact k1.2.2.1 k hk, fun j hj => by rw [gI_uI, if_neg (by omega), gI_uI, if_neg (fun z => hj z.2)]; exact k1.2.2.2 j hj⟩, ?_, fun c hc => ?_⟩
    · by_cases hv : v6 = 0
      · rw [if_pos hv, if_pos hv]
      · rw [if_neg hv, if_neg hv]
    · rw [gI_uI, if_neg (by omega), g1]
      unfold chI
      rw [if_neg (by omega), Nat.add_sub_cancel]
    · rw [gI_uI]
      by_cases q : c = tg
      · subst q; rw [if_pos ⟨rfl, rfl⟩, pk_us]
      · rw [if_neg (fun z => q z.2), pk_un q, gI_uI, if_neg (by omega)]; exact k3 c hc
  rw [hu]
  rcases p3 with ⟨p3, p4⟩ | ⟨p3, p4⟩
  · rw [g40] at p4
    rcases u3 with ⟨u3, u4⟩ | ⟨u3, u4⟩
    · rw [p4] at u4
      rw [u4, if_pos rfl, e15]
      have hT1 : ∃ τ', M_X9_doneOne_J90 τ2 (nI w) (nI i) (nI (6 * l + gF g w)) 1 = some ((match evP T g w e 2 with | some v => ((0 : Int32), tT T (gF g w) + 1, upd e (tT T (gF g w)) v) | none => (3, 0, e)).1, τ') ∧ Pm T i (match evP T g w e 2 with | some v => ((0 : Int32), tT T (gF g w) + 1, upd e (tT T (gF g w)) v) | none => (3, 0, e)).2.1 (match evP T g w e 2 with | some v => ((0 : Int32), tT T (gF g w) + 1, upd e (tT T (gF g w)) v) | none => (3, 0, e)).2.2 τ τ' := by
        unfold M_X9_doneOne_J90 M_X9_doneOne_J108 M_X9_doneOne_J120
        obtain ⟨r2, τ3, z1, z2, z3⟩ := m_reckoned (h.kq f2.kq) (k := 2) (e := e) hw (by decide) (Or.inl (by decide)) c2
        have c3 : ∀ c, c < tC T → gI τ3 29 c = e c := fun c hc => (congrFun (z2.2.1 29 (by decide) (by decide) (by decide)) c).trans (c2 c hc)
        rw [if_pos n01, if_neg n10, show M_X9_reckoned τ2 (nI w) 2 = some (r2, τ3) from z1, bnd2_some]
        rcases z3 with ⟨z3, z4⟩ | ⟨z3, z4⟩
        · rw [u4] at z4
          rw [z3, z4, if_pos rfl, if_neg n10, chk_pos cv, xv, e16 τ3 z2]
          have := j159 τ3 1 r2 (tT T (gF g w)) (f2.m z2) c3 y2
          rw [if_neg n10] at this
          exact this
        · rw [z3, z4, if_neg n10]
          exact ⟨τ3, rfl, fin3 τ3 (f2.m z2) ((congrFun (z2.2.1 31 (by decide) (by decide) (by decide)) i).trans d2) c3⟩
      have hF0 : ∃ τ', M_X9_doneOne_J90 τ2 (nI w) (nI i) (nI (6 * l + gF g w)) 0 = some ((if tE T (gF g w) = 0 then ((2 : Int32), 0, e) else (match evP T g w e 3 with | some v => ((1 : Int32), tE T (gF g w), upd e (tE T (gF g w) - 1) v) | none => (3, 0, e))).1, τ') ∧ Pm T i (if tE T (gF g w) = 0 then ((2 : Int32), 0, e) else (match evP T g w e 3 with | some v => ((1 : Int32), tE T (gF g w), upd e (tE T (gF g w) - 1) v) | none => (3, 0, e))).2.1 (if tE T (gF g w) = 0 then ((2 : Int32), 0, e) else (match evP T g w e 3 with | some v => ((1 : Int32), tE T (gF g w), upd e (tE T (gF g w) - 1) v) | none => (3, 0, e))).2.2 τ τ' := by
        unfold M_X9_doneOne_J90 M_X9_doneOne_J108 M_X9_doneOne_J120
        rw [if_neg z00, chk_pos cv, xv, e17 τ2 fm0]
        by_cases hE : tE T (gF g w) = 0
        · rw [if_pos hE, if_neg (show ¬ (0 : Int32) ≤ -1 by decide)]
          rw [if_pos hE]
          exact ⟨τ2, rfl, fin3 τ2 f2 d2 c2⟩
        · obtain ⟨r2, τ3, z1, z2, z3⟩ := m_reckoned (h.kq f2.kq) (k := 3) (e := e) hw (by decide) (Or.inr hE) c2
          have c3 : ∀ c, c < tC T → gI τ3 29 c = e c := fun c hc => (congrFun (z2.2.1 29 (by decide) (by decide) (by decide)) c).trans (c2 c hc)
          rw [if_neg hE, if_pos (i0le (show tE T (gF g w) - 1 < 2 ^ 31 by omega)), if_pos rfl, show M_X9_reckoned τ2 (nI w) 3 = some (r2, τ3) from z1, bnd2_some]
          rw [if_neg hE]
          rcases z3 with ⟨z3, z4⟩ | ⟨z3, z4⟩
          · rw [u4] at z4
            rw [z3, z4, if_pos rfl, if_pos rfl, chk_pos cv, e17 τ3 z2, if_neg hE]
            have := j159 τ3 0 r2 (tE T (gF g w) - 1) (f2.m z2) c3 (by omega)
            rw [if_pos rfl, show tE T (gF g w) - 1 + 1 = tE T (gF g w) by omega] at this
            exact this
          · rw [z3, z4, if_neg n10]
            exact ⟨τ3, rfl, fin3 τ3 (f2.m z2) ((congrFun (z2.2.1 31 (by decide) (by decide) (by decide)) i).trans d2) c3⟩
      have hd : doS T g w e = if (if tL T (gF g w) = 1 then r0 < r1 else r0 = r1) then (match evP T g w e 2 with | some v => ((0 : Int32), tT T (gF g w) + 1, upd e (tT T (gF g w)) v) | none => (3, 0, e)) else if tE T (gF g w) = 0 then (2, 0, e) else (match evP T g w e 3 with | some v => (1, tE T (gF g w), upd e (tE T (gF g w) - 1) v) | none => (3, 0, e)) := by
        unfold doS
        rw [p3, u3]
        rfl
      rw [hd]
      rcases (show tL T (gF g w) = 0 ∨ tL T (gF g w) = 1 by omega) with hL | hL
      · simp only [hL, show ¬ (0 : Nat) = 1 by decide, if_false]
        rw [if_pos (show (5 : Int32) ≠ 13 by decide)]
        by_cases hab : r0 = r1
        · rw [if_neg (fun z => z hab), if_pos hab]
          exact hT1
        · rw [if_pos hab, if_neg hab]
          exact hF0
      · simp only [hL, if_true]
        rw [if_neg (show ¬ (13 : Int32) ≠ 13 by decide)]
        by_cases hab : r0 < r1
        · rw [if_neg (show ¬ r1 ≤ r0 from fun z => by
            rw [Int32.le_iff_toInt_le] at z; rw [Int32.lt_iff_toInt_lt] at hab; omega), if_pos hab]
          exact hT1
        · rw [if_pos (show r1 ≤ r0 from by
            rw [Int32.lt_iff_toInt_lt] at hab; rw [Int32.le_iff_toInt_le]; omega), if_neg hab]
          exact hF0
    · rw [u4, if_neg n10]
      have hd : doS T g w e = (3, 0, e) := by
        unfold doS
        rw [p3, u3]
      rw [hd]
      exact ⟨τ2, rfl, fin3 τ2 f2 d2 c2⟩
  · have g2 : gI τ2 0 40 = 1 := by
      rcases u3 with ⟨u3, u4⟩ | ⟨u3, u4⟩
      · rw [u4, p4]
      · exact u4
    rw [g2, if_neg n10]
    have hd : doS T g w e = (3, 0, e) := by
      unfold doS
      rw [p3]
    rw [hd]
    exact ⟨τ2, rfl, fin3 τ2 f2 d2 c2⟩
/-- cells ahead of the place i of a log -/
def envS (T : Td) (g : Gs) (f : Nat → Nat) : Nat → Nat → Int32
  | 0 => tI T
  | i + 1 => (doS T g (f i) (envS T g f i)).2.2
def outS (T : Td) (g : Gs) (f : Nat → Nat) (i : Nat) : Int32 := (doS T g (f i) (envS T g f i)).1
def chS (T : Td) (g : Gs) (f : Nat → Nat) (i : Nat) : Nat := (doS T g (f i) (envS T g f i)).2.1
def FD (τ τ' : Wd) : Prop := τ'.2 = τ.2 ∧ (∀ c, c ≠ 0 → c ≠ 23 → c ≠ 24 → c ≠ 29 → c ≠ 30 → c ≠ 31 → τ'.1 c = τ.1 c) ∧ (∀ k, k ≠ 40 → gI τ' 0 k = gI τ 0 k)
theorem FD.refl {τ : Wd} : FD τ τ := ⟨rfl, fun _ _ _ _ _ _ _ => rfl, fun _ _ => rfl⟩
theorem FD.kq {τ τ' : Wd} (h : FD τ τ') : KQ τ τ' := by
  refine ⟨⟨fun c hc => ?_, congrArg (fun z => z.1 7) h.1, fun k hk => h.2.2 k (by omega)⟩, h.2.1 26 (by decide) (by decide) (by decide) (by decide) (by decide) (by decide), h.2.2 43 (by decide)⟩
  refine h.2.1 c (fun e => ?_) (fun e => ?_) (fun e => ?_) (fun e => ?_) (fun e => ?_) (fun e => ?_) <;> (subst e; cases hc)
theorem FD.trans {a b c : Wd} (h : FD a b) (k : FD b c) : FD a c := ⟨k.1.trans h.1, fun x h1 h2 h3 h4 h5 h6 => (k.2.1 x h1 h2 h3 h4 h5 h6).trans (h.2.1 x h1 h2 h3 h4 h5 h6), fun x h1 => (k.2.2 x h1).trans (h.2.2 x h1)⟩
theorem Fo.D {i : Nat} {a b : Wd} (h : Fo i a b) : FD a b := ⟨h.1, fun c h1 h2 h3 h4 _ h6 => h.2.1 c h1 h2 h3 h4 h6, h.2.2.1⟩
theorem FD.w {τ τ' : Wd} {c : Nat} {f : Nat → Int32} (hc : c = 29 ∨ c = 30 ∨ c = 31) (h : FD τ τ') : FD τ (rI τ' c f) := h.trans ⟨rfl, fun x _ _ _ _ _ _ => rI_ne (by omega), fun k _ => gI_rI_n (by omega)⟩
theorem m_firstCells {T : Td} {t l : Nat} {g : Gs} {σ τ : Wd} (h : Qd T t l g σ τ) : ∃ F, M_X9_firstCells τ = some (rI τ 29 F) ∧ ∀ c, c < tC T → F c = tI T c := by
  obtain ⟨ht, h4, hl, h18, hTI, hTC, hTM⟩ := gR_mid h.1
  have hC6 : tC T ≤ 6 := hTI.2.2.2.2.1
  have q := cp_loop (σ0 := τ) (a := 13) (b := 29) (sp := 6 * l) (dp := 0) (N := 6) (body := fun s : Int32 × Wd => M_X9_firstCells_L2 s.1 s.2) (Or.inl (by decide)) (by decide) (fun i s hi hc _ => by
    show M_X9_firstCells_L2 (nI i) s = _
    have e : gI s 0 18 = nI l := (congrFun (hc 0 (by decide)) 18).trans h18
    unfold M_X9_firstCells_L2
    by_cases h0 : 6 ≤ i
    · rw [if_pos (show (6 : Int32) ≤ nI i from (nI_leI (a := 6) (by decide) (by omega)).mpr h0), if_pos h0]
    · rw [if_neg (show ¬ (6 : Int32) ≤ nI i from fun z => h0 ((nI_leI (a := 6) (by decide) (by omega)).mp z)), if_neg h0, e, show (6 : Int32) * nI l + nI i = nI (6 * l + i) by rw [show (6 : Int32) = nI 6 from rfl, pk_mul, nI_add], chk_pos ((ib_nI (by omega)).mpr (by omega)), chk_pos ((ib_nI (by omega)).mpr (by omega)), ix_nI (by omega), ix_nI (by omega), nI_1, Nat.zero_add]
      rfl)
  refine ⟨va_cpy (τ.1 13) (τ.1 29) (6 * l) 0 6, ?_, fun c hc => ?_⟩
  · unfold M_X9_firstCells
    rw [show ((0 : Int32), τ) = (nI 0, τ) from rfl, q]
    rfl
  · rw [pk_cpy_in (by omega) (by omega), Nat.sub_zero]
    exact hTM.2.1 c hc
theorem m_doesLog {T : Td} {t l : Nat} {g : Gs} {σ τ : Wd} (h : Qd T t l g σ τ) {f : Nat → Nat} {m : Nat} (hm : m ≤ 60) (hf : ∀ i, i < m → gI τ 27 i = nI (f i) ∧ f i < gW g) : ∃ τ', M_X9_doesLog τ (nI m) = some τ' ∧ FD τ τ' ∧ (∀ i, i < m → gI τ' 30 i = outS T g f i ∧ gI τ' 31 i = chI (chS T g f i)) ∧ ∀ c, c < tC T → gI τ' 29 c = envS T g f m c := by
  obtain ⟨F, a1, a2⟩ := m_firstCells h
  obtain ⟨x, h1, h2⟩ := ow_for (body := fun s : Int32 × Wd => M_X9_doesLog_L6 (nI m) s.1 s.2) (Q := fun x => FD τ x ∧ (∀ i, i < m → gI x 30 i = outS T g f i ∧ gI x 31 i = chI (chS T g f i)) ∧ ∀ c, c < tC T → gI x 29 c = envS T g f m c) (fun i s => ∃ τi, s = (nI i, τi) ∧ FD τ τi ∧ (∀ j, j < i → gI τi 30 j = outS T g f j ∧ gI τi 31 j = chI (chS T g f j)) ∧ ∀ c, c < tC T → gI τi 29 c = envS T g f i c) m (FU_big (by omega)) (fun i s hi ⟨τi, hs, hF, hj, hc⟩ => by
    subst hs
    show ow (M_X9_doesLog_L6 (nI m) (nI i) τi) _
    have hfi := hf i hi
    have e27 : gI τi 27 i = nI (f i) := (congrFun (hF.2.1 27 (by decide) (by decide) (by decide) (by decide) (by decide) (by decide)) i).trans hfi.1
    obtain ⟨τ2, b1, b2, b3, b4⟩ := m_doneOne (h.kq hF.kq) (w := f i) (i := i) (e := envS T g f i) hfi.2 (by omega) hc
    unfold M_X9_doesLog_L6
    rw [if_neg (fun z => by have := (nI_leI (by omega) (by omega)).mp z; omega), chk_pos ((ib_nI (by omega)).mpr (by omega)), ix_nI (by omega), e27, b1, bnd2_some, chk_pos ((ib_nI (by omega)).mpr (by omega)), lt_eq, lt_eq, nI_1]
    refine ow_some.mpr ⟨_, rfl, (hF.trans b2.D).w (Or.inr (Or.inl rfl)), fun j hj2 => ?_, fun c hc2 => ?_⟩
    · rw [gI_uI]
      by_cases hji : j = i
      · subst hji
        rw [if_pos ⟨rfl, rfl⟩, gI_uI, if_neg (by omega), b3]
        exact ⟨rfl, rfl⟩
      · have := hj j (by omega)
        rw [if_neg (fun z => hji z.2), gI_uI, if_neg (by omega), b2.2.2.2 j hji, show gI τ2 30 j = gI τi 30 j from congrFun (b2.2.1 30 (by decide) (by decide) (by decide) (by decide) (by decide)) j]
        exact this
    · rw [gI_uI, if_neg (by omega)]
      exact b4 c hc2) (fun s ⟨τi, hs, hF, hj, hc⟩ => by
    subst hs
    show ow (M_X9_doesLog_L6 (nI m) (nI m) τi) _
    unfold M_X9_doesLog_L6
    rw [if_pos ((nI_leI (by omega) (by omega)).mpr (Nat.le_refl _))]
    exact ow_some.mpr ⟨hF, hj, hc⟩) 0 (nI 0, rI τ 29 F) (Nat.zero_le _) ⟨_, rfl, FD.refl.w (Or.inl rfl), fun j hj => absurd hj (by omega), fun c hc => by rw [gI_rI_s]; exact a2 c hc⟩
  refine ⟨x, ?_, h2⟩
  unfold M_X9_doesLog
  rw [a1, bnd1_some, show ((0 : Int32), rI τ 29 F) = (nI 0, rI τ 29 F) from rfl, h1]
  rfl
