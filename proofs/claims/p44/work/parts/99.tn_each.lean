/-! the law's end: each copy's log -/
/-- how many from a place on -/
def tcN (P : Nat → Bool) : Nat → Nat → Nat
  | 0, _ => 0
  | d + 1, i => if P i = true then tcN P d (i + 1) + 1 else tcN P d (i + 1)
theorem tcN_cn {P : Nat → Bool} : ∀ d i, cnN P i + tcN P d i = cnN P (i + d) := by
  intro d
  induction d with
  | zero => intro i; rfl
  | succ d ih =>
    intro i
    have := ih (i + 1)
    have e : cnN P (i + 1) = if P i = true then cnN P i + 1 else cnN P i := rfl
    rw [show i + (d + 1) = i + 1 + d by omega, ← this, e]
    show cnN P i + (if P i = true then tcN P d (i + 1) + 1 else tcN P d (i + 1)) = _
    split <;> omega
theorem tcN_0 {P : Nat → Bool} (n : Nat) : tcN P n 0 = cnN P n := by
  have := tcN_cn (P := P) n 0
  rw [Nat.zero_add] at this
  rw [← this]
  exact (Nat.zero_add _).symm
theorem nI_le0 {w : Nat} (hw : w < 2 ^ 30) : nI w ≤ (0 : Int32) ↔ w = 0 := ⟨fun z => by have := (nI_leI (b := 0) (by omega) (by decide)).mp z; omega, fun z => by rw [z]; decide⟩
section LG
variable {T : Td} {g : Gs} {un : Nat} {hs sl : Nat → Gs} {hl : Nat → Nat} {σ : Wd} {q : Lq}
theorem g_loop2079 {v5 v6 v8 v9 v10 v11 v13 v14 v15 v16 v17 v19 v20 v21 v22 : Int32} {c i : Nat} (hc : c < tN T) (hi : i < ln g c) : ∀ (d k fu : Nat) (σ : Wd), k + d = tC T → d < fu → At T g un hs sl hl σ → ∃ σ', iter (fun s : Int32 × Int32 × Wd => M_L_law_L2079 q v5 v6 (nI (tC T)) v8 v9 v10 v11 (nI c) v13 v14 v15 v16 v17 (nI i) v19 v20 v21 v22 s.1 s.2.1 s.2.2) fu (nI (chgN T g (lf g c) i k), nI k, σ) = some (nI (chgN T g (lf g c) i (tC T)), σ') ∧ At T g un hs sl hl σ' := by
  intro d
  induction d with
  | zero =>
    intro k fu σ hk hf h
    obtain ⟨m, rfl⟩ : ∃ m, fu = m + 1 := ⟨fu - 1, by omega⟩
    obtain rfl : k = tC T := by omega
    have n5 := h.n5
    refine ⟨σ, it_x ?_, h⟩
    show M_L_law_L2079 q v5 v6 (nI (tC T)) v8 v9 v10 v11 (nI c) v13 v14 v15 v16 v17 (nI i) v19 v20 v21 v22 _ (nI (tC T)) σ = _
    unfold M_L_law_L2079
    rw [if_pos ((nI_leI (by omega) (by omega)).mpr (Nat.le_refl _))]
  | succ d ih =>
    intro k fu σ hk hf h
    obtain ⟨m, rfl⟩ : ∃ m, fu = m + 1 := ⟨fu - 1, by omega⟩
    have n5 := h.n5
    have hkC : k < tC T := by omega
    obtain ⟨σ1, e1, h1⟩ := x_behind h (k := k) (i := i) hc hkC (by omega)
    obtain ⟨σ2, e2, h2⟩ := x_behind h1 (k := k) (i := i + 1) hc hkC (by omega)
    obtain ⟨σ3, r1, r2⟩ := ih (k + 1) m σ2 (by omega) (by omega) h2
    refine ⟨σ3, (it_s ?_).trans r1, r2⟩
    show M_L_law_L2079 q v5 v6 (nI (tC T)) v8 v9 v10 v11 (nI c) v13 v14 v15 v16 v17 (nI i) v19 v20 v21 v22 (nI (chgN T g (lf g c) i k)) (nI k) σ = _
    have ee : chgN T g (lf g c) i (k + 1) = if envS T g (lf g c) i k ≠ envS T g (lf g c) (i + 1) k then chgN T g (lf g c) i k + 1 else chgN T g (lf g c) i k := rfl
    unfold M_L_law_L2079
    rw [if_neg (fun z => by have := (nI_leI (by omega) (by omega)).mp z; omega), e1, bnd2_some, show nI i + (1 : Int32) = nI (i + 1) from nI_1 _, e2, bnd2_some, ee]
    by_cases q : envS T g (lf g c) i k = envS T g (lf g c) (i + 1) k
    · rw [if_pos q, if_neg (fun z => z q)]
      simp only [lt_eq, nI_1]
    · rw [if_neg q, if_pos q]
      simp only [lt_eq, nI_1]
/-- what the most that hangs is told as -/
def moV (n : Nat) : Int32 := if n = 0 then -2 else nI n
theorem moV_max {a b : Nat} (ha : a < 2 ^ 30) (hb : b < 2 ^ 30) (h : a ≠ 0) : (if moV b < nI a then nI a else moV b) = moV (max a b) := by
  unfold moV
  rw [if_neg (show ¬ max a b = 0 by omega)]
  by_cases hb0 : b = 0
  · rw [if_pos hb0, if_pos (show (-2 : Int32) < nI a from by
      rcases Int32.lt_iff_toInt_lt.mpr (show (-2 : Int32).toInt < (nI a).toInt from by rw [nI_toInt (by omega)]; show (-2 : Int) < _; omega) with z; exact z), hb0, Nat.max_eq_left (Nat.zero_le _)]
  · rw [if_neg hb0]
    by_cases q : b < a
    · rw [if_pos ((nI_ltI (by omega) (by omega)).mpr q), Nat.max_eq_left (by omega)]
    · rw [if_neg (fun z => q ((nI_ltI (by omega) (by omega)).mp z)), Nat.max_eq_right (by omega)]
/-- one write of one log, looked at -/
theorem g_2120 (hL : LQ T q) (h : At T g un hs sl hl σ) {v8 v9 v10 v11 : Int32} {c i a b m : Nat} {v16 : Int32} (hc : c < tN T) (hi : i < ln g c) (hm : m < 2 ^ 30) : ∃ σ', M_L_law_J2120 q σ 1 (nI (tN T)) (nI (tC T)) v8 v9 v10 v11 (nI c) (nI (ln g c)) (nI a) (nI b) v16 (moV m) (nI i) (nI (lf g c i)) (outS T g (lf g c) i) (nI (cH T g (lf g c) i (ln g c))) (fH T g (lf g c) i (ln g c)) (nI (chgN T g (lf g c) i (tC T))) = some (.inl (1, nI (if decide (outS T g (lf g c) i = 1) = true then a + 1 else a), nI (if (decide (outS T g (lf g c) i = 2) || decide (outS T g (lf g c) i = 3)) = true then b + 1 else b), (if outS T g (lf g c) i = 0 then v16 else nI (lf g c i)), moV (max (cH T g (lf g c) i (ln g c)) m), nI i + (-1 : Int32), σ')) ∧ At T g un hs sl hl σ' := by
  have n5 := h.n5
  have lw := h.lnW hc
  have lx := ln_facts h.inv (show c < 5 by omega)
  have hwW := lx.1 i hi
  have hff : gF g (lf g c i) < tF T := (h.inv.2.2.2.2.2.2.2.2.2.1 _ hwW).1
  have hcl := cH_lt (T := T) (g := g) (f := lf g c) (p := i) (ln g c)
  have hfa := fH_at (T := T) (g := g) (f := lf g c) (p := i) (ln g c)
  have hch := chg_out (T := T) (g := g) (f := lf g c) (i := i) (k := tC T)
  have hdo := do_all (T := T) (g := g) (w := lf g c i) (e := envS T g (lf g c) i)
  have hidle : outS T g (lf g c) i = 2 ∨ outS T g (lf g c) i = 3 → cH T g (lf g c) i (ln g c) = 0 := cH_idle h.tI (fun j hj => (h.inv.2.2.2.2.2.2.2.2.2.1 _ (lx.1 j hj)).1) hi
  obtain ⟨hw0, _⟩ := x_write h hwW
  generalize hO : outS T g (lf g c) i = o at *
  generalize hH : cH T g (lf g c) i (ln g c) = w at *
  generalize hF : fH T g (lf g c) i (ln g c) = fh at *
  generalize hG : chgN T g (lf g c) i (tC T) = ch at *
  have ho : o = 0 ∨ o = 1 ∨ o = 2 ∨ o = 3 := by
    rcases hdo with ⟨z, _⟩ | ⟨z, _⟩ | ⟨z | z, _⟩
    · exact Or.inl (hO.symm.trans z)
    · exact Or.inr (Or.inl (hO.symm.trans z))
    · exact Or.inr (Or.inr (Or.inl (hO.symm.trans z)))
    · exact Or.inr (Or.inr (Or.inr (hO.symm.trans z)))
  have hels : o = 1 → ¬ lH q (gF g (lf g c i)) 2 < 0 := fun z => by
    refine hL.els _ hff ?_
    have z : (doS T g (lf g c i) (envS T g (lf g c) i)).1 = 1 := hO.trans z
    rcases hdo with ⟨y, _⟩ | ⟨_, y, _⟩ | ⟨y | y, _⟩
    · rw [z] at y; exact absurd y (by decide)
    · exact y
    · rw [z] at y; exact absurd y (by decide)
    · rw [z] at y; exact absurd y (by decide)
  have hw30 : w < 2 ^ 30 := Nat.lt_of_le_of_lt hcl (by clear hfa hdo; omega)
  have lw0 : nI w ≤ (0 : Int32) ↔ w = 0 := nI_le0 hw30
  -- from 2276 on
  have j2276 : ∀ {A B C D : Int32} {σ' : Wd}, M_L_law_J2276 q σ' (nI (tN T)) (nI (tC T)) v8 v9 v10 v11 (nI c) (nI (ln g c)) A B C D (nI i) o (nI w) = some (.inl (1, A, B, C, D, nI i + (-1 : Int32), σ')) := fun {A B C D σ'} => by
    unfold M_L_law_J2276 M_L_law_J2287 M_L_law_J2292
    by_cases hw : nI w = 0
    · rw [if_pos hw]; rfl
    · rw [if_neg hw, if_neg (fun z => by
        rcases ho with e | e | e | e
        · rw [e] at z; exact absurd z (by decide)
        · rw [e] at z; exact absurd z (by decide)
        · exact hw (by rw [hidle (Or.inl e)]; rfl)
        · exact hw (by rw [hidle (Or.inr e)]; rfl))]
      rfl
  have j2234 : ∀ {A B C D : Int32} {σ' : Wd}, At T g un hs sl hl σ' → M_L_law_J2234 q σ' (nI (tN T)) (nI (tC T)) v8 v9 v10 v11 (nI c) (nI (ln g c)) A B C D (nI i) (nI (lf g c i)) o (nI w) (nI ch) = some (.inl (1, A, B, C, D, nI i + (-1 : Int32), σ')) := fun {A B C D σ'} h' => by
    have e0 : ∀ t0, (t0 = 1 ∨ (t0 = (0 : Int32) ∧ ch = 0)) → M_L_law_J2247 q σ' (nI (tN T)) (nI (tC T)) v8 v9 v10 v11 (nI c) (nI (ln g c)) A B C D (nI i) (nI (lf g c i)) o (nI w) t0 (nI ch) = some (.inl (1, A, B, C, D, nI i + (-1 : Int32), σ')) := fun t0 ht => by
      unfold M_L_law_J2247
      rw [if_neg (fun z => by
        rcases ht with e | ⟨e, e2⟩
        · rw [e] at z; have := (nI_ltI (a := 1) (by decide) (by omega)).mp z; omega
        · rw [e, e2] at z; exact absurd z (by decide))]
      by_cases o1 : o = 1
      · obtain ⟨hw0', _⟩ := x_write h' hwW
        have hfm := hL.fm
        rw [if_neg (fun z => z o1), show M_X8_write σ' (nI (lf g c i)) 0 = _ from hw0', bnd1_some, chk_pos ((ib_nI (by omega)).mpr (by omega)), chk_pos (by decide), chk_pos (by decide), ix_nI (by omega), if_neg (by
          have := hels o1
          exact this)]
        exact j2276
      · rw [if_pos o1]
        exact j2276
    unfold M_L_law_J2234
    by_cases o2 : (2 : Int32) ≤ o
    · rw [if_pos o2]
      refine e0 0 (Or.inr ⟨rfl, hch.2 (fun z => ?_)⟩)
      rcases z with z | z <;> (rw [z] at o2; exact absurd o2 (by decide))
    · rw [if_neg o2]
      exact e0 1 (Or.inl rfl)
  have j2161 : ∀ {A B C D : Int32}, ∃ σ', M_L_law_J2161 q σ 1 (nI (tN T)) (nI (tC T)) v8 v9 v10 v11 (nI c) (nI (ln g c)) A B C D (nI i) (nI (lf g c i)) o (nI w) fh (nI ch) = some (.inl (1, A, B, C, D, nI i + (-1 : Int32), σ')) ∧ At T g un hs sl hl σ' := fun {A B C D} => by
    have c1 : ¬ o < 0 := by rcases ho with e | e | e | e <;> rw [e] <;> decide
    have c2 : ¬ (4 : Int32) ≤ o := by rcases ho with e | e | e | e <;> rw [e] <;> decide
    rcases hfa with ⟨z1, z2⟩ | ⟨z1, j, j1, j2, z2⟩
    · refine ⟨σ, ?_, h⟩
      unfold M_L_law_J2161 M_L_law_J2202 M_L_law_J2212
      rw [if_neg n10, if_neg c1, if_neg c2, if_neg (nI_n0 (by omega)), nI_nat (by omega), if_neg (fun z => by have := (nI_leI (by omega) (by omega)).mp z; omega), if_pos (lw0.mpr z1), z2, if_pos (by decide), if_neg (fun z => z rfl), if_pos (by decide)]
      exact j2234 h
    · obtain ⟨σ', e, h'⟩ := x_ahead h hc j1 j2
      have := lx.1 j j2
      refine ⟨σ', ?_, h'⟩
      unfold M_L_law_J2161 M_L_law_J2202 M_L_law_J2212
      rw [if_neg n10, if_neg c1, if_neg c2, if_neg (nI_n0 (by omega)), nI_nat (by omega), if_neg (fun z => by have := (nI_leI (by omega) (by omega)).mp z; omega), if_neg (fun z => z1 (lw0.mp z)), z2, if_neg (nI_n0 (by omega)), if_neg (fun z => z rfl), if_neg (nI_n0 (by omega)), e, bnd2_some, if_neg (fun z => z rfl)]
      exact j2234 h'
  have j2147 : ∀ {A B C : Int32}, ∃ σ', M_L_law_J2147 q σ 1 (nI (tN T)) (nI (tC T)) v8 v9 v10 v11 (nI c) (nI (ln g c)) A B C (moV m) (nI i) (nI (lf g c i)) o (nI w) fh (nI ch) = some (.inl (1, A, B, C, moV (max w m), nI i + (-1 : Int32), σ')) ∧ At T g un hs sl hl σ' := fun {A B C} => by
    unfold M_L_law_J2147
    by_cases hw : w = 0
    · rw [if_pos (lw0.mpr hw), show max w m = m from Nat.max_eq_right (hw ▸ Nat.zero_le m)]
      exact j2161
    · rw [if_neg (fun z => hw (lw0.mp z)), moV_max hw30 hm hw, lt_eq]
      exact j2161
  have e23 : (o = 2 ∨ o = 3) ↔ ¬ o ≤ 1 := by rcases ho with e | e | e | e <;> rw [e] <;> decide
  have e0 : o = 0 ↔ o ≤ 0 := by rcases ho with e | e | e | e <;> rw [e] <;> decide
  unfold M_L_law_J2120 M_L_law_J2129 M_L_law_J2138
  rcases ho with e | e | e | e
  · subst e
    rw [if_pos (show (0 : Int32) ≠ 1 by decide), if_pos (by decide), if_pos (by decide), if_pos rfl]
    exact j2147
  · subst e
    rw [if_neg (fun z => z rfl), if_pos (by decide), if_neg (by decide), if_neg n10]
    simp only [lt_eq, nI_1]
    exact j2147
  · subst e
    rw [if_pos (show (2 : Int32) ≠ 1 by decide), if_neg (by decide), if_neg (show ¬ (2 : Int32) = 0 by decide)]
    simp only [lt_eq, nI_1]
    rw [if_neg (by decide)]
    exact j2147
  · subst e
    rw [if_pos (show (3 : Int32) ≠ 1 by decide), if_neg (by decide), if_neg (show ¬ (3 : Int32) = 0 by decide)]
    simp only [lt_eq, nI_1]
    rw [if_neg (by decide)]
    exact j2147
end LG
