/-! a write done: what it is, and the class's way -/
abbrev vrW (g : Gs) (w : Nat) (e : Nat → Int32) : Int32 → Int32 := vrE e (iX g w) (nI (gS g w)) (nI (gN g w))
abbrev evP (T : Td) (g : Gs) (w : Nat) (e : Nat → Int32) (p : Nat) : Option Int32 := evA (vrW g w e) (tX T (gF g w) p) (fun _ => 0) 0
/-- how it comes out; the cell that it changes and 1 (0: none); the cells behind it -/
def doS (T : Td) (g : Gs) (w : Nat) (e : Nat → Int32) : Int32 × Nat × (Nat → Int32) :=
  match evP T g w e 0, evP T g w e 1 with
  | some a, some b => if (if tL T (gF g w) = 1 then a < b else a = b) then (match evP T g w e 2 with
      | some v => (0, tT T (gF g w) + 1, upd e (tT T (gF g w)) v)
      | none => (3, 0, e)) else if tE T (gF g w) = 0 then (2, 0, e) else (match evP T g w e 3 with
      | some v => (1, tE T (gF g w), upd e (tE T (gF g w) - 1) v)
      | none => (3, 0, e))
  | _, _ => (3, 0, e)
def chI (c : Nat) : Int32 := if c = 0 then -1 else nI (c - 1)
section PF
variable {T : Td} {t l : Nat} {g : Gs} {σ τ : Wd}
theorem c_part (h : Qd T t l g σ τ) {σ2 : Wd} {q a n w base p : Nat} {e : Nat → Int32} (hk : ∀ c, c < 100 → σ2.1 c = σ.1 c) (hq : 100 < q) (ha : a ≠ q) (ha1 : a ≠ q + 1) (hw : w < gW g) (hb : base + 6 ≤ n) (hn : n < 1000) (hp : p < 4) (hpe : p < 3 ∨ tE T (gF g w) ≠ 0) (he : ∀ c, c < tC T → gI σ2 a (base + c) = e c) (h2 : gI σ2 q 2 = 0) : ∃ r σ', M_X0_worth σ2 q t (nI (4 * gF g w + p)) (nI w) a n (nI base) = some (r, σ') ∧ Fr q σ2 σ' ∧ ((evP T g w e p = some r ∧ gI σ' q 2 = 0) ∨ (evP T g w e p = none ∧ gI σ' q 2 = 1)) := by
  obtain ⟨hW, hO, hP, hn5⟩ := q_bd h
  obtain ⟨ht, h4, hl, h18, hTI, hTC, hTM⟩ := gR_mid h.1
  have hI := h.2.2.2.2.1
  have hf := (hI.2.2.2.2.2.2.2.2.2.1 w hw).1
  have hF6 : tF T ≤ 6 := hTI.2.2.2.2.2.1
  have hC6 : tC T ≤ 6 := hTI.2.2.2.2.1
  have ht19 : t ≤ 19 := by rcases ht with e | e <;> omega
  obtain ⟨A0, a1, a2, a3, a4⟩ := (hTC.2.2 (gF g w) hf).2.2.2 p hp hpe
  have hwf := (hTI.2.2.2.2.2.2 (gF g w) hf).2.2.2 p hp hpe
  have gk : ∀ c k, c < 100 → gI σ2 c k = gI σ c k := fun c k hc => congrFun (hk c hc) k
  have qa := q_arr h hw
  have := c_worth (q := q) (t := t) (a := a) (n := n) (p := 4 * gF g w + p) (w := w) (base := base) (nc := tC T) (A0 := A0) (σ := σ2) (e := e) (cs := tX T (gF g w) p) hq ht19 ha ha1 (by omega) (by omega) hC6 hb hn he ((gk _ _ (by omega)).trans a1) ((gk _ _ (by omega)).trans a2) a3 (by rw [show gI σ2 (t + 7) = gI σ (t + 7) from hk _ (by omega), show gI σ2 (t + 8) = gI σ (t + 8) from hk _ (by omega)]; exact a4) hwf h2
  rw [gk 31 w (by decide), gk 32 w (by decide), gk 33 w (by decide), qa.2.1, qa.2.2.1, qa.2.2.2] at this
  exact this
theorem c_partS (h : Qd T t l g σ τ) {σ2 : Wd} {q a n w base p : Nat} (hk : ∀ c, c < 100 → σ2.1 c = σ.1 c) (hq : 100 < q) (hw : w < gW g) (hp : p < 4) (hpe : p < 3 ∨ tE T (gF g w) ≠ 0) (h2 : gI σ2 q 2 = 1) : ∃ r σ', M_X0_worth σ2 q t (nI (4 * gF g w + p)) (nI w) a n (nI base) = some (r, σ') ∧ Fr q σ2 σ' ∧ gI σ' q 2 = 1 := by
  obtain ⟨ht, h4, hl, h18, hTI, hTC, hTM⟩ := gR_mid h.1
  have hI := h.2.2.2.2.1
  have hf := (hI.2.2.2.2.2.2.2.2.2.1 w hw).1
  have hF6 : tF T ≤ 6 := hTI.2.2.2.2.2.1
  have ht19 : t ≤ 19 := by rcases ht with e | e <;> omega
  obtain ⟨A0, a1, a2, a3, a4⟩ := (hTC.2.2 (gF g w) hf).2.2.2 p hp hpe
  have gk : ∀ c k, c < 100 → gI σ2 c k = gI σ c k := fun c k hc => congrFun (hk c hc) k
  exact c_worthS hq ht19 (by omega) ((gk _ _ (by omega)).trans a1) ((gk _ _ (by omega)).trans a2) a3 (by omega) h2
/-- what doing a write leaves: the rest is kept; its cell and what it changed are told -/
def Pf (T : Td) (q a base : Nat) (ch : Nat) (e' : Nat → Int32) (σ σ' : Wd) : Prop := σ'.2 = σ.2 ∧ (∀ c, c ≠ q → c ≠ q + 1 → c ≠ a → σ'.1 c = σ.1 c) ∧ gI σ' q 3 = chI ch ∧ (∀ c, c < tC T → gI σ' a (base + c) = e' c) ∧ (∀ k, k < base ∨ base + 6 ≤ k → gI σ' a k = gI σ a k)
theorem c_perform (h : Qd T t l g σ τ) {q a n w base : Nat} {e : Nat → Int32} (hq : 100 < q) (ha0 : 100 < a) (ha : a ≠ q) (ha1 : a ≠ q + 1) (hw : w < gW g) (hb : base + 6 ≤ n) (hn : n < 1000) (he : ∀ c, c < tC T → gI σ a (base + c) = e c) : ∃ σ', M_X0_perform σ q t (nI w) a n (nI base) = some ((doS T g w e).1, σ') ∧ Pf T q a base (doS T g w e).2.1 (doS T g w e).2.2 σ σ' := by
  obtain ⟨hW, hO, hP, hn5⟩ := q_bd h
  obtain ⟨ht, h4, hl, h18, hTI, hTC, hTM⟩ := gR_mid h.1
  have hI := h.2.2.2.2.1
  have hf := (hI.2.2.2.2.2.2.2.2.2.1 w hw).1
  have hF6 : tF T ≤ 6 := hTI.2.2.2.2.2.1
  have hC6 : tC T ≤ 6 := hTI.2.2.2.2.1
  have ht19 : t ≤ 19 := by rcases ht with e | e <;> omega
  obtain ⟨x1, x2, x3, _⟩ := hTC.2.2 (gF g w) hf
  obtain ⟨y1, y2, y3, _⟩ := hTI.2.2.2.2.2.2 (gF g w) hf
  have qa := q_arr h hw
  -- the start
  have k7 : ∀ c, c ≠ q → (uI (uI σ q 2 0) q 3 (-1)).1 c = σ.1 c := fun c hc => (rI_ne hc).trans (rI_ne hc)
  have g27 : gI (uI (uI σ q 2 0) q 3 (-1)) q 2 = 0 := by rw [gI_uI, if_neg (by omega), gI_uI, if_pos ⟨rfl, rfl⟩]
  have g37 : gI (uI (uI σ q 2 0) q 3 (-1)) q 3 = -1 := by rw [gI_uI, if_pos ⟨rfl, rfl⟩]
  have hcc : ∀ c, c < 100 → c ≠ q ∧ c ≠ q + 1 := fun c hc => ⟨by omega, by omega⟩
  obtain ⟨r0, σ3, p1, p2, p3⟩ := c_part (σ2 := uI (uI σ q 2 0) q 3 (-1)) (q := q) (a := a) (n := n) (base := base) (p := 0) (e := e) h (fun c hc => k7 c (hcc c hc).1) hq ha ha1 hw hb hn (by decide) (Or.inl (by decide)) (fun c hc => (congrFun (k7 a ha) _).trans (he c hc)) g27
  have k3 : ∀ c, c ≠ q → c ≠ q + 1 → σ3.1 c = σ.1 c := fun c h1 h2 => (p2.2.1 c h1 h2).trans (k7 c h1)
  have g33 : gI σ3 q 3 = -1 := (p2.2.2 3 (by decide) (by decide)).trans g37
  have l3 : σ3.2 = σ.2 := p2.1
  have e4 : nI (gF g w) * 4 = nI (4 * gF g w + 0) := by rw [show (4 : Int32) = nI 4 from rfl, pk_mul, Nat.mul_comm]; rfl
  have e41 : nI (4 * gF g w + 0) + 1 = nI (4 * gF g w + 1) := nI_1 _
  have e42 : nI (4 * gF g w + 0) + 2 = nI (4 * gF g w + 2) := nI_add _ 2
  have e43 : nI (4 * gF g w + 0) + 3 = nI (4 * gF g w + 3) := nI_add _ 3
  have fin3 : ∀ σ4 : Wd, (∀ c, c ≠ q → c ≠ q + 1 → σ4.1 c = σ.1 c) → σ4.2 = σ.2 → gI σ4 q 3 = -1 → Pf T q a base 0 e σ σ4 := fun σ4 k4 l4 g4 => ⟨l4, fun c h1 h2 _ => k4 c h1 h2, g4, fun c hc => (congrFun (k4 a ha ha1) _).trans (he c hc), fun k _ => congrFun (k4 a ha ha1) k⟩
  have hu : M_X0_perform σ q t (nI w) a n (nI base) = bnd2 (M_X0_worth σ3 q t (nI (4 * gF g w + 1)) (nI w) a n (nI base)) fun r51 s_51 => if (gI s_51 q 2) = 0 then (chk (ib (nI (gF g w)) 6) (if (gI s_51 (t + 2) (gF g w)) = 0 then (if r0 ≠ r51 then (M_X0_perform_J102 q t a n s_51 (nI w) (nI base) (nI (gF g w)) (nI (4 * gF g w + 0)) (0 : Int32)) else (M_X0_perform_J102 q t a n s_51 (nI w) (nI base) (nI (gF g w)) (nI (4 * gF g w + 0)) (1 : Int32))) else (if r51 ≤ r0 then (M_X0_perform_J102 q t a n s_51 (nI w) (nI base) (nI (gF g w)) (nI (4 * gF g w + 0)) (0 : Int32)) else (M_X0_perform_J102 q t a n s_51 (nI w) (nI base) (nI (gF g w)) (nI (4 * gF g w + 0)) (1 : Int32))))) else (some ((3 : Int32), s_51)) := by
    unfold M_X0_perform
    simp only [lt_eq]
    rw [chk_pos ((ib_nI (by omega)).mpr (by omega)), ix_nI (show w < 2 ^ 31 by omega), show gI (uI (uI σ q 2 0) q 3 (-1)) 30 w = nI (gF g w) from (congrFun (k7 30 (by omega)) w).trans qa.1, e4, e41, p1, bnd2_some, ix_nI (show gF g w < 2 ^ 31 by omega)]
  rw [hu]
  -- the rest behind what it needs
  have j154 : ∀ (σ4 : Wd) (v10 : Int32) (p tg : Nat), (∀ c, c ≠ q → c ≠ q + 1 → σ4.1 c = σ.1 c) → σ4.2 = σ.2 → gI σ4 q 3 = -1 → gI σ4 q 2 = 0 → p < 4 → (p < 3 ∨ tE T (gF g w) ≠ 0) → tg < tC T → ∃ σ', M_X0_perform_J154 q t a n σ4 (nI w) (nI base) v10 (nI tg) (nI (4 * gF g w + p)) = some ((match evP T g w e p with | some v => ((if v10 = 0 then (1 : Int32) else 0), tg + 1, upd e tg v) | none => (3, 0, e)).1, σ') ∧ Pf T q a base (match evP T g w e p with | some v => ((if v10 = 0 then (1 : Int32) else 0), tg + 1, upd e tg v) | none => ((3 : Int32), 0, e)).2.1 (match evP T g w e p with | some v => ((if v10 = 0 then (1 : Int32) else 0), tg + 1, upd e tg v) | none => ((3 : Int32), 0, e)).2.2 σ σ' := fun σ4 v10 p tg k4 l4 g34 g24 hp hpe htg => by
    obtain ⟨r2, σ5, z1, z2, z3⟩ := c_part (σ2 := σ4) (q := q) (a := a) (n := n) (base := base) (p := p) (e := e) h (fun c hc => k4 c (hcc c hc).1 (hcc c hc).2) hq ha ha1 hw hb hn hp hpe (fun c hc => (congrFun (k4 a ha ha1) _).trans (he c hc)) g24
    have k5 : ∀ c, c ≠ q → c ≠ q + 1 → σ5.1 c = σ.1 c := fun c h1 h2 => (z2.2.1 c h1 h2).trans (k4 c h1 h2)
    unfold M_X0_perform_J154
    rw [z1, bnd2_some]
    rcases z3 with ⟨z3, z4⟩ | ⟨z3, z4⟩
    · rw [z3, z4, if_pos rfl, nI_add, chk_pos ((ib_nI (by omega)).mpr (by omega)), ix_nI (by omega)]
      simp only [lt_eq]
      refine ⟨uI (uI σ5 a (base + tg) r2) q 3 (nI tg), ?_, z2.1.trans l4, fun c h1 h2 h3 => (rI_ne h1).trans ((rI_ne h3).trans (k5 c h1 h2)), ?_, fun c hc => ?_, fun k hk => ?_⟩
      · by_cases hv : v10 = 0
        · rw [if_pos hv, if_pos hv]
        · rw [if_neg hv, if_neg hv]
      · rw [gI_uI, if_pos ⟨rfl, rfl⟩]
        unfold chI
        rw [if_neg (by omega), Nat.add_sub_cancel]
      · rw [gI_uI, if_neg (fun z => ha z.1), gI_uI]
        by_cases hct : c = tg
        · subst hct; rw [if_pos ⟨rfl, rfl⟩, pk_us]
        · rw [if_neg (fun z => hct (by omega)), pk_un hct]
          exact (congrFun (k5 a ha ha1) _).trans (he c hc)
      · rw [gI_uI, if_neg (fun z => ha z.1), gI_uI, if_neg (by omega)]
        exact congrFun (k5 a ha ha1) k
    · rw [z3, z4, if_neg n10]
      exact ⟨σ5, rfl, fin3 σ5 k5 (z2.1.trans l4) ((z2.2.2 3 (by decide) (by decide)).trans g34)⟩
  rcases p3 with ⟨p3, p4⟩ | ⟨p3, p4⟩
  · obtain ⟨r1, σ4, u1, u2, u3⟩ := c_part (σ2 := σ3) (q := q) (a := a) (n := n) (base := base) (p := 1) (e := e) h (fun c hc => k3 c (hcc c hc).1 (hcc c hc).2) hq ha ha1 hw hb hn (by decide) (Or.inl (by decide)) (fun c hc => (congrFun (k3 a ha ha1) _).trans (he c hc)) p4
    have k4 : ∀ c, c ≠ q → c ≠ q + 1 → σ4.1 c = σ.1 c := fun c h1 h2 => (u2.2.1 c h1 h2).trans (k3 c h1 h2)
    have l4 : σ4.2 = σ.2 := u2.1.trans l3
    have g34 : gI σ4 q 3 = -1 := (u2.2.2 3 (by decide) (by decide)).trans g33
    rw [u1, bnd2_some]
    rcases u3 with ⟨u3, u4⟩ | ⟨u3, u4⟩
    · rw [u4, if_pos rfl, chk_pos ((ib_nI (by omega)).mpr (by omega)), show gI σ4 (t + 2) (gF g w) = nI (tL T (gF g w)) from (congrFun (k4 (t + 2) (by omega) (by omega)) _).trans x1]
      have hT1 : ∃ σ', M_X0_perform_J102 q t a n σ4 (nI w) (nI base) (nI (gF g w)) (nI (4 * gF g w + 0)) (1 : Int32) = some ((match evP T g w e 2 with | some v => ((0 : Int32), tT T (gF g w) + 1, upd e (tT T (gF g w)) v) | none => (3, 0, e)).1, σ') ∧ Pf T q a base (match evP T g w e 2 with | some v => ((0 : Int32), tT T (gF g w) + 1, upd e (tT T (gF g w)) v) | none => (3, 0, e)).2.1 (match evP T g w e 2 with | some v => ((0 : Int32), tT T (gF g w) + 1, upd e (tT T (gF g w)) v) | none => (3, 0, e)).2.2 σ σ' := by
        have := j154 σ4 1 2 (tT T (gF g w)) k4 l4 g34 u4 (by decide) (Or.inl (by decide)) y2
        unfold M_X0_perform_J102 M_X0_perform_J126
        rw [if_neg n10, chk_pos ((ib_nI (by omega)).mpr (by omega)), ix_nI (show gF g w < 2 ^ 31 by omega), show gI σ4 (t + 3) (gF g w) = nI (tT T (gF g w)) from (congrFun (k4 (t + 3) (by omega) (by omega)) _).trans x2, if_pos (show nI (tT T (gF g w)) ≠ -1 from fun z => nI_n0 (show tT T (gF g w) < 2 ^ 31 by omega) (by rw [z]; decide)), if_neg n10, e42]
        simp only [if_neg n10] at this
        exact this
      have hF0 : ∃ σ', M_X0_perform_J102 q t a n σ4 (nI w) (nI base) (nI (gF g w)) (nI (4 * gF g w + 0)) (0 : Int32) = some ((if tE T (gF g w) = 0 then ((2 : Int32), 0, e) else (match evP T g w e 3 with | some v => ((1 : Int32), tE T (gF g w), upd e (tE T (gF g w) - 1) v) | none => (3, 0, e))).1, σ') ∧ Pf T q a base (if tE T (gF g w) = 0 then ((2 : Int32), 0, e) else (match evP T g w e 3 with | some v => ((1 : Int32), tE T (gF g w), upd e (tE T (gF g w) - 1) v) | none => (3, 0, e))).2.1 (if tE T (gF g w) = 0 then ((2 : Int32), 0, e) else (match evP T g w e 3 with | some v => ((1 : Int32), tE T (gF g w), upd e (tE T (gF g w) - 1) v) | none => (3, 0, e))).2.2 σ σ' := by
        unfold M_X0_perform_J102 M_X0_perform_J126
        rw [if_pos rfl, chk_pos ((ib_nI (by omega)).mpr (by omega)), ix_nI (show gF g w < 2 ^ 31 by omega), show gI σ4 (t + 4) (gF g w) = (if tE T (gF g w) = 0 then -1 else nI (tE T (gF g w) - 1)) from (congrFun (k4 (t + 4) (by omega) (by omega)) _).trans x3]
        by_cases hE : tE T (gF g w) = 0
        · rw [if_pos hE, if_neg (fun z => z rfl)]
          simp only [if_pos hE]
          exact ⟨σ4, rfl, fin3 σ4 k4 l4 g34⟩
        · have := j154 σ4 0 3 (tE T (gF g w) - 1) k4 l4 g34 u4 (by decide) (Or.inr hE) (by omega)
          rw [if_neg hE, if_pos (show nI (tE T (gF g w) - 1) ≠ -1 from fun z => nI_n0 (show tE T (gF g w) - 1 < 2 ^ 31 by omega) (by rw [z]; decide)), if_pos rfl, e43]
          rw [show tE T (gF g w) - 1 + 1 = tE T (gF g w) by omega] at this
          simp only [if_neg hE]
          exact this
      have hd : doS T g w e = if (if tL T (gF g w) = 1 then r0 < r1 else r0 = r1) then (match evP T g w e 2 with | some v => ((0 : Int32), tT T (gF g w) + 1, upd e (tT T (gF g w)) v) | none => (3, 0, e)) else if tE T (gF g w) = 0 then (2, 0, e) else (match evP T g w e 3 with | some v => (1, tE T (gF g w), upd e (tE T (gF g w) - 1) v) | none => (3, 0, e)) := by
        unfold doS
        rw [p3, u3]
      rw [hd]
      rcases (show tL T (gF g w) = 0 ∨ tL T (gF g w) = 1 by omega) with hL | hL
      · rw [hL, if_pos (show nI 0 = 0 from rfl)]
        simp only [show ¬ (0 : Nat) = 1 by decide, if_false]
        by_cases hab : r0 = r1
        · rw [if_neg (fun z => z hab), if_pos hab]
          exact hT1
        · rw [if_pos hab, if_neg hab]
          exact hF0
      · rw [hL, if_neg (show ¬ nI 1 = 0 by decide)]
        simp only [if_true]
        by_cases hab : r0 < r1
        · rw [if_neg (show ¬ r1 ≤ r0 from fun z => by
            rw [Int32.le_iff_toInt_le] at z; rw [Int32.lt_iff_toInt_lt] at hab; omega), if_pos hab]
          exact hT1
        · rw [if_pos (show r1 ≤ r0 from by
            rw [Int32.lt_iff_toInt_lt] at hab; rw [Int32.le_iff_toInt_le]; omega), if_neg hab]
          exact hF0
    · rw [u4, if_neg n10]
      have hd : doS T g w e = (3, 0, e) := by
        unfold doS
        rw [p3, u3]
      rw [hd]
      exact ⟨σ4, rfl, fin3 σ4 k4 l4 g34⟩
  · obtain ⟨r1, σ4, u1, u2, u3⟩ := c_partS (σ2 := σ3) (q := q) (a := a) (n := n) (base := base) (p := 1) h (fun c hc => k3 c (hcc c hc).1 (hcc c hc).2) hq hw (by decide) (Or.inl (by decide)) p4
    have k4 : ∀ c, c ≠ q → c ≠ q + 1 → σ4.1 c = σ.1 c := fun c h1 h2 => (u2.2.1 c h1 h2).trans (k3 c h1 h2)
    rw [u1, bnd2_some, u3, if_neg n10]
    have hd : doS T g w e = (3, 0, e) := by
      unfold doS
      rw [p3]
    rw [hd]
    exact ⟨σ4, rfl, fin3 σ4 k4 (u2.1.trans l3) ((u2.2.2 3 (by decide) (by decide)).trans g33)⟩
end PF
