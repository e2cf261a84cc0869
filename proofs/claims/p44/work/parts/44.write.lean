/-! clocks; masks; the place in the order; write -/
def mxN (f : Nat → Nat) : Nat → Nat
  | 0 => 0
  | k + 1 => max (mxN f k) (f k)
theorem mx_up {f : Nat → Nat} {o v : Nat} : ∀ n, mxN (fun x => if o = x then max (f x) v else f x) n = if o < n then max (mxN f n) v else mxN f n := by
  intro n
  induction n with
  | zero => rfl
  | succ n ih =>
    show max (mxN (fun x => if o = x then max (f x) v else f x) n) (if o = n then max (f n) v else f n) = if o < n + 1 then max (max (mxN f n) (f n)) v else max (mxN f n) (f n)
    rw [ih]
    by_cases h : o = n
    · subst h
      rw [if_neg (by omega), if_pos rfl, if_pos (by omega)]
      omega
    · rw [if_neg h]
      by_cases h2 : o < n
      · rw [if_pos h2, if_pos (by omega)]
        omega
      · rw [if_neg h2, if_neg (by omega)]
theorem mx_0 : ∀ n, mxN (fun _ => 0) n = 0 := by
  intro n
  induction n with
  | zero => rfl
  | succ n ih => show max (mxN (fun _ => 0) n) 0 = 0; rw [ih]; rfl
theorem mx_clk {g : Gs} {n m c : Nat} (hI : Inv n m g) : ∀ k, k ≤ gW g → mxN (fun o => vecN g c o k) n = clkN g c k := by
  intro k
  induction k with
  | zero => intro _; exact mx_0 n
  | succ k ih =>
    intro hk
    have hN := (hI.2.2.2.2.2.2.2.2.2.1 k (by omega)).2.1
    show mxN (fun o => if gA g c k = 1 ∧ gN g k = o then max (vecN g c o k) (gS g k) else vecN g c o k) n = if gA g c k = 1 then max (clkN g c k) (gS g k) else clkN g c k
    rw [← ih (by omega)]
    by_cases hA : gA g c k = 1
    · rw [if_pos hA]
      have := mx_up (f := fun o => vecN g c o k) (o := gN g k) (v := gS g k) n
      rw [if_pos hN] at this
      rw [← this]
      congr 1
      funext o
      by_cases h : gN g k = o
      · rw [if_pos ⟨hA, h⟩, if_pos h]
      · rw [if_neg (fun z => h z.2), if_neg h]
    · rw [if_neg hA]
      congr 1
      funext o
      rw [if_neg (fun z => hA z.1)]
theorem mx_le {f : Nat → Nat} {b : Nat} : ∀ n, (∀ o, o < n → f o ≤ b) → mxN f n ≤ b := by
  intro n
  induction n with
  | zero => intro _; exact Nat.zero_le _
  | succ n ih =>
    intro h
    have h1 := ih (fun o ho => h o (by omega))
    have h2 := h n (by omega)
    show max (mxN f n) (f n) ≤ b
    omega
theorem clkN_le {g : Gs} {n m c : Nat} (hI : Inv n m g) : ∀ k, k ≤ gW g → clkN g c k ≤ 60 := by
  intro k
  induction k with
  | zero => intro _; exact Nat.zero_le _
  | succ k ih =>
    intro hk
    have q := hI.2.2.2.2.2.2.2.2.2.1 k (by omega)
    have hW := hI.1.1
    have := ih (by omega)
    show (if _ then _ else _) ≤ 60
    by_cases h : gA g c k = 1
    · rw [if_pos h]; omega
    · rw [if_neg h]; exact this
section QW
variable {T : Td} {t l : Nat} {g : Gs} {σ τ : Wd}
theorem m_clk (h : Qd T t l g σ τ) {c : Nat} (hc : c < 5) : M_X9_clockOf τ (nI c) = some (nI (clkN g c (gW g))) := by
  obtain ⟨hW, hO, hP, hn⟩ := q_bd h
  have hI := h.2.2.2.2.1
  unfold M_X9_clockOf
  obtain ⟨x, h1, h2⟩ := ow_for (body := fun s : Int32 × Int32 => M_X9_clockOf_L4 τ (nI c) s.1 s.2) (Q := fun x => x = nI (clkN g c (gW g))) (fun i s => s = (nI (clkN g c i), nI i)) (gW g) (FU_big (by omega)) (fun i s hi hs => by
    subst hs
    show ow (M_X9_clockOf_L4 τ (nI c) (nI (clkN g c i)) (nI i)) _
    unfold M_X9_clockOf_L4
    have hN := hI.2.2.2.2.2.2.2.2.2.1 i hi
    have hv := clkN_le (c := c) hI i (by omega)
    have e1 : clkN g c (i + 1) = if gA g c i = 1 then max (clkN g c i) (gS g i) else clkN g c i := rfl
    rw [chk_pos (by decide), show gI τ 26 (ix (0 : Int32)) = nI (gW g) from h.2.2.2.1.1.1, if_neg (fun z => by have := (nI_leI (by omega) (by omega)).mp z; omega), q_have h hc (by omega), bnd1_some, (q_of h hi).2.2.2, bnd1_some, bnd1_some, nI_1]
    simp only [lt_eq]
    by_cases hA : gA g c i = 1
    · rw [if_pos hA, if_neg n10]
      by_cases hl : gS g i ≤ clkN g c i
      · rw [if_pos ((nI_leI (by omega) (by omega)).mpr hl)]
        refine ow_some.mpr ?_
        show _ = _
        rw [e1, if_pos hA, Nat.max_eq_left hl]
      · rw [if_neg (fun z => hl ((nI_leI (by omega) (by omega)).mp z))]
        refine ow_some.mpr ?_
        show _ = _
        rw [e1, if_pos hA, Nat.max_eq_right (by omega)]
    · rw [if_neg hA, if_pos rfl]
      refine ow_some.mpr ?_
      show _ = _
      rw [e1, if_neg hA]) (fun s hs => by
    subst hs
    show ow (M_X9_clockOf_L4 τ (nI c) (nI (clkN g c (gW g))) (nI (gW g))) _
    unfold M_X9_clockOf_L4
    rw [chk_pos (by decide), show gI τ 26 (ix (0 : Int32)) = nI (gW g) from h.2.2.2.1.1.1, if_pos ((nI_leI (by omega) (by omega)).mpr (Nat.le_refl _))]
    exact ow_some.mpr rfl) 0 ((0 : Int32), (0 : Int32)) (Nat.zero_le _) rfl
  rw [show iter (fun s : Int32 × Int32 => M_X9_clockOf_L4 τ (nI c) s.1 s.2) FU ((0 : Int32), (0 : Int32)) = some x from h1, bnd1_some]
  exact congrArg some h2
theorem c_clk (h : Qd T t l g σ τ) {c : Nat} (hc : c < 5) : M_X1_clockOf σ (nI c) = some (nI (clkN g c (gW g))) := by
  obtain ⟨hW, hO, hP, hn⟩ := q_bd h
  have hI := h.2.2.2.2.1
  unfold M_X1_clockOf
  obtain ⟨x, h1, h2⟩ := ow_for (body := fun s : Int32 × Int32 => M_X1_clockOf_L4 σ (nI c) s.1 s.2) (Q := fun x => x = nI (clkN g c (gW g))) (fun i s => s = (nI (mxN (fun o => vecN g c o (gW g)) i), nI i)) (tN T) (FU_big (by omega)) (fun i s hi hs => by
    subst hs
    show ow (M_X1_clockOf_L4 σ (nI c) (nI (mxN (fun o => vecN g c o (gW g)) i)) (nI i)) _
    unfold M_X1_clockOf_L4
    have hv := mx_le (f := fun o => vecN g c o (gW g)) (b := 60) i (fun o _ => vecN_le hI (gW g) (Nat.le_refl _))
    have hv2 := vecN_le (c := c) (o := i) hI (gW g) (Nat.le_refl _)
    have e1 : mxN (fun o => vecN g c o (gW g)) (i + 1) = max (mxN (fun o => vecN g c o (gW g)) i) (vecN g c i (gW g)) := rfl
    rw [q_copies h, bnd1_some, if_neg (fun z => by have := (nI_leI (by omega) (by omega)).mp z; omega), c_vec h hc (by omega), bnd1_some, nI_1]
    simp only [lt_eq]
    refine ow_some.mpr ?_
    show _ = _
    rw [e1]
    by_cases hl : mxN (fun o => vecN g c o (gW g)) i < vecN g c i (gW g)
    · rw [if_pos ((nI_ltI (by omega) (by omega)).mpr hl), Nat.max_eq_right (by omega)]
    · rw [if_neg (fun z => hl ((nI_ltI (by omega) (by omega)).mp z)), Nat.max_eq_left (by omega)]) (fun s hs => by
    subst hs
    show ow (M_X1_clockOf_L4 σ (nI c) (nI (mxN (fun o => vecN g c o (gW g)) (tN T))) (nI (tN T))) _
    unfold M_X1_clockOf_L4
    rw [q_copies h, bnd1_some, if_pos ((nI_leI (by omega) (by omega)).mpr (Nat.le_refl _)), mx_clk hI (gW g) (Nat.le_refl _)]
    exact ow_some.mpr rfl) 0 ((0 : Int32), (0 : Int32)) (Nat.zero_le _) rfl
  rw [show iter (fun s : Int32 × Int32 => M_X1_clockOf_L4 σ (nI c) s.1 s.2) FU ((0 : Int32), (0 : Int32)) = some x from h1, bnd1_some]
  exact congrArg some h2
/-- a mask of the copies with p -/
def mkN (p : Nat → Bool) : Nat → Int32
  | 0 => 0
  | c + 1 => if p c = true then mkN p c ||| ((1 : Int32) <<< (nI c &&& 31)) else mkN p c
theorem c_holders (h : Qd T t l g σ τ) {w : Nat} (hw : w < 60) : M_X1_holders σ (nI w) = some (mkN (fun c => decide (gA g c w = 1)) (tN T)) := by
  obtain ⟨hW, hO, hP, hn⟩ := q_bd h
  unfold M_X1_holders
  obtain ⟨x, h1, h2⟩ := ow_for (body := fun s : Int32 × Int32 => M_X1_holders_L4 σ (nI w) s.1 s.2) (Q := fun x => x = mkN (fun c => decide (gA g c w = 1)) (tN T)) (fun i s => s = (mkN (fun c => decide (gA g c w = 1)) i, nI i)) (tN T) (FU_big (by omega)) (fun i s hi hs => by
    subst hs
    show ow (M_X1_holders_L4 σ (nI w) (mkN (fun c => decide (gA g c w = 1)) i) (nI i)) _
    unfold M_X1_holders_L4
    have e1 : mkN (fun c => decide (gA g c w = 1)) (i + 1) = if decide (gA g i w = 1) = true then mkN (fun c => decide (gA g c w = 1)) i ||| ((1 : Int32) <<< (nI i &&& 31)) else mkN (fun c => decide (gA g c w = 1)) i := rfl
    rw [q_copies h, bnd1_some, if_neg (fun z => by have := (nI_leI (by omega) (by omega)).mp z; omega), q_has h (by omega) hw, bnd1_some, nI_1]
    simp only [lt_eq]
    by_cases hA : gA g i w = 1
    · rw [if_pos hA, if_neg n10]
      refine ow_some.mpr ?_
      show _ = _
      rw [e1, if_pos (by simp [hA])]
    · rw [if_neg hA, if_pos rfl]
      refine ow_some.mpr ?_
      show _ = _
      rw [e1, if_neg (by simp [hA])]) (fun s hs => by
    subst hs
    show ow (M_X1_holders_L4 σ (nI w) (mkN (fun c => decide (gA g c w = 1)) (tN T)) (nI (tN T))) _
    unfold M_X1_holders_L4
    rw [q_copies h, bnd1_some, if_pos ((nI_leI (by omega) (by omega)).mpr (Nat.le_refl _))]
    exact ow_some.mpr rfl) 0 ((0 : Int32), (0 : Int32)) (Nat.zero_le _) rfl
  rw [show iter (fun s : Int32 × Int32 => M_X1_holders_L4 σ (nI w) s.1 s.2) FU ((0 : Int32), (0 : Int32)) = some x from h1, bnd1_some]
  exact congrArg some h2
theorem q_18 (h : Qd T t l g σ τ) : gI τ 0 18 = nI l ∧ l < 2 ∧ gI τ 10 l = nI (tN T) := by
  obtain ⟨ht, h4, hl, h18, hTI, hTC, hTM⟩ := gR_mid h.1
  exact ⟨h18, hl, hTM.1.1⟩
theorem m_holders (h : Qd T t l g σ τ) {w : Nat} (hw : w < 60) : iter (fun s : Int32 × Int32 => M_X9_write_L87 τ (nI w) s.1 s.2) FU ((0 : Int32), (0 : Int32)) = some (mkN (fun c => decide (gA g c w = 1)) (tN T)) := by
  obtain ⟨hW, hO, hP, hn⟩ := q_bd h
  obtain ⟨k1, k2, k3⟩ := q_18 h
  obtain ⟨x, h1, h2⟩ := ow_for (body := fun s : Int32 × Int32 => M_X9_write_L87 τ (nI w) s.1 s.2) (Q := fun x => x = mkN (fun c => decide (gA g c w = 1)) (tN T)) (fun i s => s = (mkN (fun c => decide (gA g c w = 1)) i, nI i)) (tN T) (FU_big (by omega)) (fun i s hi hs => by
    subst hs
    show ow (M_X9_write_L87 τ (nI w) (mkN (fun c => decide (gA g c w = 1)) i) (nI i)) _
    unfold M_X9_write_L87
    have e1 : mkN (fun c => decide (gA g c w = 1)) (i + 1) = if decide (gA g i w = 1) = true then mkN (fun c => decide (gA g c w = 1)) i ||| ((1 : Int32) <<< (nI i &&& 31)) else mkN (fun c => decide (gA g c w = 1)) i := rfl
    rw [k1, chk_pos ((ib_nI (by omega)).mpr k2), ix_nI (by omega), k3, if_neg (fun z => by have := (nI_leI (by omega) (by omega)).mp z; omega), q_have h (by omega) hw, bnd1_some, nI_1]
    simp only [lt_eq]
    by_cases hA : gA g i w = 1
    · rw [if_pos hA, if_neg n10]
      refine ow_some.mpr ?_
      show _ = _
      rw [e1, if_pos (by simp [hA])]
    · rw [if_neg hA, if_pos rfl]
      refine ow_some.mpr ?_
      show _ = _
      rw [e1, if_neg (by simp [hA])]) (fun s hs => by
    subst hs
    show ow (M_X9_write_L87 τ (nI w) (mkN (fun c => decide (gA g c w = 1)) (tN T)) (nI (tN T))) _
    unfold M_X9_write_L87
    rw [k1, chk_pos ((ib_nI (by omega)).mpr k2), ix_nI (by omega), k3, if_pos ((nI_leI (by omega) (by omega)).mpr (Nat.le_refl _))]
    exact ow_some.mpr rfl) 0 ((0 : Int32), (0 : Int32)) (Nat.zero_le _) rfl
  rw [show iter (fun s : Int32 × Int32 => M_X9_write_L87 τ (nI w) s.1 s.2) FU ((0 : Int32), (0 : Int32)) = some x from h1, h2]
end QW
