/-! plan: the model's search -/
def boI (b : Bool) : Int32 := if b = true then 1 else 0
theorem boI_ne (b : Bool) : (boI b ≠ 0) ↔ b = true := by cases b <;> decide
theorem boI_eq (b : Bool) : (boI b = 0) ↔ b = false := by cases b <;> decide
def cl (m c : Nat) : Nat := m - (if m.testBit c = true then 2 ^ c else 0)
theorem cl_ok : ∀ m : Fin 32, ∀ c : Fin 5, cl m.val c.val ≤ m.val ∧ (m.val.testBit c.val = true → b5 (cl m.val c.val) < b5 m.val) ∧ (m.val.testBit c.val = false → cl m.val c.val = m.val) ∧ ∀ d : Fin 5, (cl m.val c.val).testBit d.val = (m.val.testBit d.val && !decide (d.val = c.val)) := by decide +kernel
theorem lst_none {p : Nat → Bool} {i : Nat} (h : ∀ j, j < i → p j = false) (hp : p i = true) : Lst p (i + 1) i := ⟨by omega, hp, fun j hj hq => by
  by_cases e : j = i
  · subst e; exact Or.inr ⟨rfl, Nat.le_refl _⟩
  · rw [h j (by omega)] at hq; exact Bool.noConfusion hq⟩
theorem lst_keep {p : Nat → Bool} {i m : Nat} (h : Lst p i m) (hp : p i = true → b5 m ≤ b5 i) : Lst p (i + 1) m := ⟨by have := h.1; omega, h.2.1, fun j hj hq => by
  by_cases e : j = i
  · subst e
    have := hp hq
    have := h.1
    by_cases hb : b5 m < b5 j
    · exact Or.inl hb
    · exact Or.inr ⟨by omega, by omega⟩
  · exact h.2.2 j (by omega) hq⟩
theorem lst_new {p : Nat → Bool} {i m : Nat} (h : Lst p i m) (hp : p i = true) (hb : b5 i < b5 m) : Lst p (i + 1) i := ⟨by omega, hp, fun j hj hq => by
  by_cases e : j = i
  · subst e; exact Or.inr ⟨rfl, Nat.le_refl _⟩
  · rcases h.2.2 j (by omega) hq with z | ⟨z, _⟩
    · exact Or.inl (by omega)
    · exact Or.inl (by omega)⟩
theorem br_cl {g : Gs} {n m : Nat} (hm : m < 32) (hn : n ≤ 5) (hP : gP g < 5) : brB g n (cl m (gP g)) = brB g n m := by
  obtain ⟨q1, q2, q3, q4⟩ := cl_ok ⟨m, hm⟩ ⟨gP g, hP⟩
  have q4 : ∀ d : Fin 5, (cl m (gP g)).testBit d.val = (m.testBit d.val && !decide (d.val = gP g)) := q4
  unfold brB
  congr 1
  apply propext
  constructor
  · intro z w hw
    rcases (bbN_iff _).mp (z w hw) with a | ⟨c, c1, c2, c3⟩
    · exact (bbN_iff _).mpr (Or.inl a)
    · have := q4 ⟨c, by omega⟩
      rw [show (cl m (gP g)).testBit c = true from c2] at this
      exact (bbN_iff _).mpr (Or.inr ⟨c, c1, ((Bool.and_eq_true _ _).mp this.symm).1, c3⟩)
  · intro z w hw
    rcases (bbN_iff _).mp (z w hw) with a | ⟨c, c1, c2, c3⟩
    · exact (bbN_iff _).mpr (Or.inl a)
    · by_cases e : c = gP g
      · exact (bbN_iff _).mpr (Or.inl (by rw [← e]; exact c3))
      · refine (bbN_iff _).mpr (Or.inr ⟨c, c1, ?_, c3⟩)
        have := q4 ⟨c, by omega⟩
        rw [show ((⟨c, by omega⟩ : Fin 5).val) = c from rfl] at this
        rw [this, c2, decide_eq_false e]
        rfl
def pnB (g : Gs) (n m : Nat) : Bool := brB g n m && !m.testBit (gP g)
theorem lst_off {g : Gs} {n m : Nat} (hn : n ≤ 5) (hP : gP g < 5) (h : Lst (brB g n) (2 ^ n) m) (h32 : 2 ^ n ≤ 32) : m.testBit (gP g) = false := by
  have hm : m < 32 := Nat.lt_of_lt_of_le h.1 h32
  obtain ⟨q1, q2, q3, q4⟩ := cl_ok ⟨m, hm⟩ ⟨gP g, hP⟩
  have q1 : cl m (gP g) ≤ m := q1
  have q2 : m.testBit (gP g) = true → b5 (cl m (gP g)) < b5 m := q2
  cases hb : m.testBit (gP g) with
  | false => rfl
  | true =>
    have z1 := q2 hb
    have z2 := h.1
    rcases h.2.2 (cl m (gP g)) (by omega) (by rw [br_cl hm hn hP]; exact h.2.1) with z | ⟨z, _⟩
    · omega
    · omega
theorem lst_u {g : Gs} {n m m' : Nat} (hn : n ≤ 5) (hP : gP g < 5) (h32 : 2 ^ n ≤ 32) (h : Lst (brB g n) (2 ^ n) m) (h' : Lst (pnB g n) (2 ^ n) m') : m' = m := by
  have o := lst_off hn hP h h32
  have p1 : pnB g n m = true := by unfold pnB; rw [h.2.1, o]; rfl
  have p2 : brB g n m' = true := ((Bool.and_eq_true _ _).mp h'.2.1).1
  have a := h.2.2 m' h'.1 p2
  have b := h'.2.2 m h.1 p1
  omega
section PM
variable {T : Td} {t l : Nat} {g : Gs} {σ τ : Wd}
theorem m_isBrought (h : Qd T t l g σ τ) {m : Nat} (hm : m < 32) : M_X9_isBrought τ (nI m) = some (boI (brB g (tN T) m)) := by
  obtain ⟨hW, hO, hP, hn⟩ := q_bd h
  obtain ⟨k1, k2, k3⟩ := q_18 h
  have hI := h.2.2.2.2.1
  have e0 : gI τ 26 (ix (0 : Int32)) = nI (gW g) := h.2.2.2.1.1.1
  have e2 : gI τ 26 (ix (2 : Int32)) = nI (gP g) := h.2.2.2.1.1.2.2.1
  have q := al2_loop (body := fun s : Int32 => M_X9_isBrought_L2 τ (nI m) s) (n := gW g) (i0 := 0) (C := fun w => bbN g m w (tN T)) (by omega) (by omega) (fun w _ hw => by
    show M_X9_isBrought_L2 τ (nI m) (nI w) = _
    unfold M_X9_isBrought_L2
    rw [chk_pos (by decide), e0]
    by_cases h0 : gW g ≤ w
    · rw [if_pos ((nI_leI (by omega) (by omega)).mpr h0), if_pos h0]
    · rw [if_neg (fun z => h0 ((nI_leI (by omega) (by omega)).mp z)), if_neg h0, chk_pos (by decide), e2, q_have h (by omega) (by omega), bnd1_some]
      obtain ⟨x, h1, h2⟩ := ow_for (body := fun s : Int32 × Int32 × Int32 => M_X9_isBrought_L30 τ (nI m) (nI w) s.1 s.2.1 s.2.2) (Q := fun x => x = (boI (bbN g m w (tN T)), (1 : Int32))) (fun i s => s = (boI (bbN g m w i), boI (decide (gA g (gP g) w = 1) || orN g w i), nI i)) (tN T) (FU_big (by omega)) (fun i s hi hs => by
        subst hs
        show ow (M_X9_isBrought_L30 τ (nI m) (nI w) (boI (bbN g m w i)) (boI (decide (gA g (gP g) w = 1) || orN g w i)) (nI i)) _
        unfold M_X9_isBrought_L30
        have f1 : bbN g m w (i + 1) = if m.testBit i = true then (bbN g m w i || decide (gA g i w = 1)) else bbN g m w i := rfl
        have f2 : orN g w (i + 1) = (orN g w i || decide (gA g i w = 1)) := rfl
        rw [k1, chk_pos ((ib_nI (by omega)).mpr k2), ix_nI (by omega), k3, if_neg (fun z => by have := (nI_leI (by omega) (by omega)).mp z; omega), q_have h (by omega) (by omega), bnd1_some, bitm hm (by omega), nI_1]
        simp only [lt_eq]
        by_cases hA : gA g i w = 1
        · rw [if_pos hA, if_pos n01]
          by_cases hb : m.testBit i = true
          · rw [if_pos hb, if_neg (fun z => z rfl)]
            refine ow_some.mpr ?_
            show _ = _
            rw [f1, if_pos hb, f2, decide_eq_true hA, Bool.or_true, Bool.or_true, Bool.or_true]
            rfl
          · rw [if_neg hb, if_pos (show (0 : Int32) ≠ 1 by decide)]
            refine ow_some.mpr ?_
            show _ = _
            rw [f1, if_neg hb, f2, decide_eq_true hA, Bool.or_true, Bool.or_true]
            rfl
        · rw [if_neg hA, if_neg z00]
          refine ow_some.mpr ?_
          show _ = _
          rw [f1, f2, decide_eq_false hA, Bool.or_false, Bool.or_false, ite_self]) (fun s hs => by
        subst hs
        show ow (M_X9_isBrought_L30 τ (nI m) (nI w) (boI (bbN g m w (tN T))) (boI (decide (gA g (gP g) w = 1) || orN g w (tN T))) (nI (tN T))) _
        unfold M_X9_isBrought_L30
        rw [k1, chk_pos ((ib_nI (by omega)).mpr k2), ix_nI (by omega), k3, if_pos ((nI_leI (by omega) (by omega)).mpr (Nat.le_refl _)), orN_W hI, decide_eq_true (show w < gW g by omega), Bool.or_true]
        exact ow_some.mpr rfl) 0 ((if gA g (gP g) w = 1 then (1 : Int32) else 0), (if gA g (gP g) w = 1 then (1 : Int32) else 0), (0 : Int32)) (Nat.zero_le _) (by
          show _ = (boI (decide (gA g (gP g) w = 1)), boI (decide (gA g (gP g) w = 1) || false), nI 0)
          rw [Bool.or_false]
          unfold boI
          by_cases hA : gA g (gP g) w = 1
          · rw [if_pos hA, if_pos (decide_eq_true hA)]; rfl
          · rw [if_neg hA, if_neg (by rw [decide_eq_false hA]; exact Bool.noConfusion)]; rfl)
      rw [show iter (fun s : Int32 × Int32 × Int32 => M_X9_isBrought_L30 τ (nI m) (nI w) s.1 s.2.1 s.2.2) FU ((if gA g (gP g) w = 1 then (1 : Int32) else 0), (if gA g (gP g) w = 1 then (1 : Int32) else 0), (0 : Int32)) = some x from h1, bnd1_some, h2]
      show (if (1 : Int32) = 0 then some (Sum.inl (nI w + 1)) else if boI (bbN g m w (tN T)) ≠ 0 then some (Sum.inl (nI w + 1)) else (some (Sum.inr (Sum.inr (0 : Int32))) : Option (Int32 ⊕ (Unit ⊕ Int32)))) = _
      rw [if_neg n10, nI_1]
      by_cases hc : bbN g m w (tN T) = true
      · rw [if_pos ((boI_ne _).mpr hc), if_pos hc]
      · rw [if_neg (fun z => hc ((boI_ne _).mp z)), if_neg hc])
  unfold M_X9_isBrought
  rcases q with ⟨⟨i, i1, i2, i3⟩, e⟩ | ⟨a, e⟩
  · rw [show iter (fun s : Int32 => M_X9_isBrought_L2 τ (nI m) s) FU 0 = some (.inr 0) from e, bnd1_some]
    have : brB g (tN T) m = false := decide_eq_false (fun z => by rw [z i i2] at i3; exact Bool.noConfusion i3)
    rw [this]
    rfl
  · rw [show iter (fun s : Int32 => M_X9_isBrought_L2 τ (nI m) s) FU 0 = some (.inl ()) from e, bnd1_some]
    have : brB g (tN T) m = true := decide_eq_true (fun w hw => a w (Nat.zero_le _) hw)
    rw [this]
    rfl
theorem m_bringers (h : Qd T t l g σ τ) : ∃ m, Lst (pnB g (tN T)) (2 ^ tN T) m ∧ M_X9_bringers τ = some (nI m) := by
  obtain ⟨hW, hO, hP, hn⟩ := q_bd h
  obtain ⟨k1, k2, k3⟩ := q_18 h
  obtain ⟨t1, t2, t3, t4, t5⟩ := two5 ⟨tN T, by omega⟩
  have t1 : ((1 : Int32) <<< (nI (tN T) &&& 31)) = nI (2 ^ tN T) := t1
  have t3 : 2 ^ tN T ≤ 32 := t3
  have t4 : 1 ≤ 2 ^ tN T := t4
  have e2 : gI τ 26 (ix (2 : Int32)) = nI (gP g) := h.2.2.2.1.1.2.2.1
  unfold M_X9_bringers
  obtain ⟨x, h1, h2⟩ := ow_for (body := fun s : Int32 × Int32 => M_X9_bringers_L4 τ s.1 s.2) (Q := fun x => ∃ m, Lst (pnB g (tN T)) (2 ^ tN T) m ∧ x = nI m) (fun i s => (s = (-1, nI i) ∧ ∀ j, j < i → pnB g (tN T) j = false) ∨ ∃ m, s = (nI m, nI i) ∧ Lst (pnB g (tN T)) i m) (2 ^ tN T) (FU_big (by omega)) (fun i s hi hs => by
    have hpi : pnB g (tN T) i = (brB g (tN T) i && !i.testBit (gP g)) := rfl
    have hb32 : i < 32 := by omega
    have go : ∀ v : Int32, M_X9_bringers_L4 τ v (nI i) = if pnB g (tN T) i = true then (if v < 0 then some (.inl (nI i, nI (i + 1))) else bnd1 (M_X9_bits (nI i)) fun r49 => bnd1 (M_X9_bits v) fun r53 => if r53 ≤ r49 then some (.inl (v, nI (i + 1))) else some (.inl (nI i, nI (i + 1)))) else some (.inl (v, nI (i + 1))) := fun v => by
      unfold M_X9_bringers_L4 M_X9_bringers_J59
      rw [k1, chk_pos ((ib_nI (by omega)).mpr k2), ix_nI (by omega), k3, t1, if_neg (fun z => by have := (nI_leI (by omega) (by omega)).mp z; omega), chk_pos (by decide), e2, bitm hb32 (by omega)]
      simp only [lt_eq]
      rw [nI_1, hpi]
      by_cases hb : i.testBit (gP g) = true
      · rw [if_pos hb, if_pos rfl, hb, if_neg (by rw [Bool.not_true, Bool.and_false]; exact Bool.noConfusion)]
      · rw [if_neg hb, if_neg (show ¬ (0 : Int32) = 1 by decide), m_isBrought h hb32, bnd1_some, Bool.eq_false_iff.mpr hb, Bool.not_false, Bool.and_true]
        by_cases hc : brB g (tN T) i = true
        · rw [if_pos ((boI_ne _).mpr hc), if_pos hc]
        · rw [if_neg (fun z => hc ((boI_ne _).mp z)), if_neg hc]
    rcases hs with ⟨rfl, hj⟩ | ⟨m, rfl, hL⟩
    · show ow (M_X9_bringers_L4 τ (-1) (nI i)) _
      rw [go]
      by_cases hp : pnB g (tN T) i = true
      · rw [if_pos hp, if_pos (by decide)]
        exact ow_some.mpr (Or.inr ⟨i, rfl, lst_none hj hp⟩)
      · rw [if_neg hp]
        refine ow_some.mpr (Or.inl ⟨rfl, fun j hj2 => ?_⟩)
        by_cases e : j = i
        · subst e; exact Bool.eq_false_iff.mpr hp
        · exact hj j (by omega)
    · show ow (M_X9_bringers_L4 τ (nI m) (nI i)) _
      have hmi := hL.1
      have b1 := b5_le (m := m) (by omega)
      have b2 := b5_le (m := i) (by omega)
      rw [go]
      by_cases hp : pnB g (tN T) i = true
      · rw [if_pos hp, if_neg (nI_n0 (by omega)), m_b5 hb32, bnd1_some, m_b5 (by omega), bnd1_some]
        by_cases hq : b5 m ≤ b5 i
        · rw [if_pos ((nI_leI (by omega) (by omega)).mpr hq)]
          exact ow_some.mpr (Or.inr ⟨m, rfl, lst_keep hL (fun _ => hq)⟩)
        · rw [if_neg (fun z => hq ((nI_leI (by omega) (by omega)).mp z))]
          exact ow_some.mpr (Or.inr ⟨i, rfl, lst_new hL hp (by omega)⟩)
      · rw [if_neg hp]
        exact ow_some.mpr (Or.inr ⟨m, rfl, lst_keep hL (fun z => absurd z hp)⟩)) (fun s hs => by
    have go : ∀ v : Int32, M_X9_bringers_L4 τ v (nI (2 ^ tN T)) = some (.inr v) := fun v => by
      unfold M_X9_bringers_L4
      rw [k1, chk_pos ((ib_nI (by omega)).mpr k2), ix_nI (by omega), k3, t1, if_pos ((nI_leI (by omega) (by omega)).mpr (Nat.le_refl _))]
    rcases hs with ⟨rfl, hj⟩ | ⟨m, rfl, hL⟩
    · exfalso
      obtain ⟨q1, q2, q3, q4⟩ := cl_ok ⟨2 ^ tN T - 1, by omega⟩ ⟨gP g, by omega⟩
      have q1 : cl (2 ^ tN T - 1) (gP g) ≤ 2 ^ tN T - 1 := q1
      have q5 : (cl (2 ^ tN T - 1) (gP g)).testBit (gP g) = ((2 ^ tN T - 1).testBit (gP g) && !decide (gP g = gP g)) := q4 ⟨gP g, by omega⟩
      have z := hj (cl (2 ^ tN T - 1) (gP g)) (by omega)
      unfold pnB at z
      rw [br_cl (by omega) (by omega) (by omega), br_all h, q5, decide_eq_true rfl, Bool.not_true, Bool.and_false] at z
      exact Bool.noConfusion z
    · show ow (M_X9_bringers_L4 τ (nI m) (nI (2 ^ tN T))) _
      rw [go]
      exact ow_some.mpr ⟨m, hL, rfl⟩) 0 ((-1 : Int32), (0 : Int32)) (Nat.zero_le _) (Or.inl ⟨rfl, fun j hj => by omega⟩)
  rw [show iter (fun s : Int32 × Int32 => M_X9_bringers_L4 τ s.1 s.2) FU ((-1 : Int32), (0 : Int32)) = some x from h1, bnd1_some]
  obtain ⟨m, m1, m2⟩ := h2
  exact ⟨m, m1, congrArg some m2⟩
end PM
