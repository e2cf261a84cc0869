/-! plan -/
def b5 (m : Nat) : Nat := cnN (fun i => m.testBit i) 5
theorem b5_c : ∀ m : Fin 32, M_J6_bitCount_0f7a4 (nI m.val) = some (nI (b5 m.val)) ∧ b5 m.val ≤ 5 := by decide +kernel
theorem b5_t : ∀ m : Fin 32, ∀ i : Fin 5, ((nI m.val >>> (nI i.val &&& 31)) &&& (1 : Int32)) = if m.val.testBit i.val = true then 1 else 0 := by decide +kernel
theorem bitm {m i : Nat} (hm : m < 32) (hi : i < 5) : ((nI m >>> (nI i &&& 31)) &&& (1 : Int32)) = if m.testBit i = true then 1 else 0 := b5_t ⟨m, hm⟩ ⟨i, hi⟩
theorem c_b5 {m : Nat} (hm : m < 32) : M_J6_bitCount_0f7a4 (nI m) = some (nI (b5 m)) := (b5_c ⟨m, hm⟩).1
theorem b5_le {m : Nat} (hm : m < 32) : b5 m ≤ 5 := (b5_c ⟨m, hm⟩).2
theorem m_b5 {m : Nat} (hm : m < 32) : M_X9_bits (nI m) = some (nI (b5 m)) := by
  unfold M_X9_bits
  obtain ⟨x, h1, h2⟩ := ow_for (body := fun s : Int32 × Int32 => M_X9_bits_L4 (nI m) s.1 s.2) (Q := fun x => x = nI (b5 m)) (fun i s => s = (nI (cnN (fun i => m.testBit i) i), nI i)) 5 (FU_big (by omega)) (fun i s hi hs => by
    subst hs
    show ow (M_X9_bits_L4 (nI m) (nI (cnN (fun i => m.testBit i) i)) (nI i)) _
    unfold M_X9_bits_L4
    have e1 : cnN (fun i => m.testBit i) (i + 1) = if m.testBit i = true then cnN (fun i => m.testBit i) i + 1 else cnN (fun i => m.testBit i) i := rfl
    rw [if_neg (fun z => by have := (nI_leI (a := 5) (by omega) (by omega)).mp z; omega), bitm hm hi, nI_1]
    simp only [lt_eq]
    refine ow_some.mpr ?_
    show _ = _
    rw [e1]
    by_cases hb : m.testBit i = true
    · rw [if_pos hb, if_pos hb, nI_1]
    · rw [if_neg hb, if_neg hb]
      exact congrArg (fun z => (z, nI (i + 1))) (Int32.add_zero _)) (fun s hs => by
    subst hs
    show ow (M_X9_bits_L4 (nI m) (nI (cnN (fun i => m.testBit i) 5)) (nI 5)) _
    unfold M_X9_bits_L4
    rw [if_pos (by decide)]
    exact ow_some.mpr rfl) 0 ((0 : Int32), (0 : Int32)) (Nat.zero_le _) rfl
  rw [show iter (fun s : Int32 × Int32 => M_X9_bits_L4 (nI m) s.1 s.2) FU ((0 : Int32), (0 : Int32)) = some x from h1, bnd1_some]
  exact congrArg some h2
def bbN (g : Gs) (m w : Nat) : Nat → Bool
  | 0 => decide (gA g (gP g) w = 1)
  | k + 1 => if m.testBit k = true then (bbN g m w k || decide (gA g k w = 1)) else bbN g m w k
theorem bbN_iff {g : Gs} {m w : Nat} : ∀ k, bbN g m w k = true ↔ gA g (gP g) w = 1 ∨ ∃ c, c < k ∧ m.testBit c = true ∧ gA g c w = 1 := by
  intro k
  induction k with
  | zero =>
    show decide (gA g (gP g) w = 1) = true ↔ _
    rw [decide_eq_true_iff]
    exact ⟨fun z => Or.inl z, fun z => z.elim id (fun ⟨c, h, _⟩ => absurd h (by omega))⟩
  | succ k ih =>
    show (if m.testBit k = true then (bbN g m w k || decide (gA g k w = 1)) else bbN g m w k) = true ↔ _
    by_cases hb : m.testBit k = true
    · rw [if_pos hb, Bool.or_eq_true, ih, decide_eq_true_iff]
      constructor
      · rintro ((z | ⟨c, h1, h2, h3⟩) | z)
        · exact Or.inl z
        · exact Or.inr ⟨c, by omega, h2, h3⟩
        · exact Or.inr ⟨k, by omega, hb, z⟩
      · rintro (z | ⟨c, h1, h2, h3⟩)
        · exact Or.inl (Or.inl z)
        · by_cases hc : c = k
          · subst hc; exact Or.inr h3
          · exact Or.inl (Or.inr ⟨c, by omega, h2, h3⟩)
    · rw [if_neg hb, ih]
      constructor
      · rintro (z | ⟨c, h1, h2, h3⟩)
        · exact Or.inl z
        · exact Or.inr ⟨c, by omega, h2, h3⟩
      · rintro (z | ⟨c, h1, h2, h3⟩)
        · exact Or.inl z
        · by_cases hc : c = k
          · subst hc; exact absurd h2 hb
          · exact Or.inr ⟨c, by omega, h2, h3⟩
def brB (g : Gs) (n m : Nat) : Bool := decide (∀ w, w < gW g → bbN g m w n = true)
def orN (g : Gs) (w : Nat) : Nat → Bool
  | 0 => false
  | k + 1 => orN g w k || decide (gA g k w = 1)
theorem orN_iff {g : Gs} {w : Nat} : ∀ k, orN g w k = true ↔ ∃ c, c < k ∧ gA g c w = 1 := by
  intro k
  induction k with
  | zero => exact ⟨fun z => Bool.noConfusion z, fun ⟨c, h, _⟩ => absurd h (by omega)⟩
  | succ k ih =>
    show (orN g w k || decide (gA g k w = 1)) = true ↔ _
    rw [Bool.or_eq_true, ih, decide_eq_true_iff]
    constructor
    · rintro (⟨c, h1, h2⟩ | z)
      · exact ⟨c, by omega, h2⟩
      · exact ⟨k, by omega, z⟩
    · rintro ⟨c, h1, h2⟩
      by_cases hc : c = k
      · subst hc; exact Or.inr h2
      · exact Or.inl ⟨c, by omega, h2⟩
theorem orN_W {g : Gs} {n m w : Nat} (hI : Inv n m g) : orN g w n = decide (w < gW g) := by
  have : orN g w n = true ↔ w < gW g := by
    rw [orN_iff]
    exact ⟨fun ⟨c, _, h⟩ => (hI.2.2.2.2.2.1 c w h).1, fun h => ⟨gN g w, (hI.2.2.2.2.2.2.2.2.2.1 w h).2.1, (hI.2.2.2.2.2.2.2.2.2.1 w h).2.2.2.2⟩⟩
  cases h : orN g w n with
  | true => exact (decide_eq_true (this.mp h)).symm
  | false => exact (decide_eq_false (fun z => by rw [this.mpr z] at h; exact absurd h (by decide))).symm
section PG
variable {T : Td} {t l : Nat} {g : Gs} {σ τ : Wd}
theorem c_any (h : Qd T t l g σ τ) : ∃ x, M_X1_hadByAny σ = some x ∧ ∀ w, w < 64 → x.toBitVec.getLsbD w = decide (w < gW g) := by
  obtain ⟨hW, hO, hP, hn⟩ := q_bd h
  unfold M_X1_hadByAny
  obtain ⟨x, h1, h2⟩ := ow_for (body := fun s : Int64 × Int32 => M_X1_hadByAny_L4 σ s.1 s.2) (Q := fun x => ∀ w, w < 64 → x.toBitVec.getLsbD w = orN g w (tN T)) (fun i s => ∃ x : Int64, s = (x, nI i) ∧ ∀ w, w < 64 → x.toBitVec.getLsbD w = orN g w i) (tN T) (FU_big (by omega)) (fun i s hi ⟨x, hs, hx⟩ => by
    subst hs
    show ow (M_X1_hadByAny_L4 σ x (nI i)) _
    unfold M_X1_hadByAny_L4
    rw [q_copies h, bnd1_some, if_neg (fun z => by have := (nI_leI (by omega) (by omega)).mp z; omega), c_setOf (by omega), bnd1_some]
    simp only [lt_eq]
    refine ow_some.mpr ⟨_, congrArg (fun z => (_, z)) (show nI i + 1 = nI (i + 1) from nI_1 i), fun w hw => ?_⟩
    rw [Int64.toBitVec_or, BitVec.getLsbD_or, hx w hw, q_set h (by omega) hw]
    rfl) (fun s ⟨x, hs, hx⟩ => by
    subst hs
    show ow (M_X1_hadByAny_L4 σ x (nI (tN T))) _
    unfold M_X1_hadByAny_L4
    rw [q_copies h, bnd1_some, if_pos ((nI_leI (by omega) (by omega)).mpr (Nat.le_refl _))]
    exact ow_some.mpr hx) 0 ((0 : Int64), (0 : Int32)) (Nat.zero_le _) ⟨0, rfl, fun w hw => by
      show (0 : BitVec 64).getLsbD w = false
      exact BitVec.getLsbD_zero⟩
  rw [show iter (fun s : Int64 × Int32 => M_X1_hadByAny_L4 σ s.1 s.2) FU ((0 : Int64), (0 : Int32)) = some x from h1, bnd1_some]
  exact ⟨x, rfl, fun w hw => by rw [h2 w hw, orN_W h.2.2.2.2.1]⟩
theorem c_brought (h : Qd T t l g σ τ) {m : Nat} (hm : m < 32) : ∃ x, M_X1_broughtBy σ (nI m) = some x ∧ ∀ w, w < 64 → x.toBitVec.getLsbD w = bbN g m w (tN T) := by
  obtain ⟨hW, hO, hP, hn⟩ := q_bd h
  unfold M_X1_broughtBy
  rw [show M_X1_primary σ = some (nI (gP g)) from c_primary (h.2.1.1.2.1), bnd1_some, c_setOf (by omega), bnd1_some]
  obtain ⟨x, h1, h2⟩ := ow_for (body := fun s : Int64 × Int32 => M_X1_broughtBy_L12 σ (nI m) s.1 s.2) (Q := fun x => ∀ w, w < 64 → x.toBitVec.getLsbD w = bbN g m w (tN T)) (fun i s => ∃ x : Int64, s = (x, nI i) ∧ ∀ w, w < 64 → x.toBitVec.getLsbD w = bbN g m w i) (tN T) (FU_big (by omega)) (fun i s hi ⟨x, hs, hx⟩ => by
    subst hs
    show ow (M_X1_broughtBy_L12 σ (nI m) x (nI i)) _
    unfold M_X1_broughtBy_L12
    have e1 : ∀ w, bbN g m w (i + 1) = if m.testBit i = true then (bbN g m w i || decide (gA g i w = 1)) else bbN g m w i := fun w => rfl
    rw [q_copies h, bnd1_some, if_neg (fun z => by have := (nI_leI (by omega) (by omega)).mp z; omega), bitm hm (by omega), c_setOf (by omega), bnd1_some]
    simp only [lt_eq]
    by_cases hb : m.testBit i = true
    · rw [if_pos hb, if_neg n10]
      refine ow_some.mpr ⟨_, congrArg (fun z => (_, z)) (show nI i + 1 = nI (i + 1) from nI_1 i), fun w hw => ?_⟩
      rw [Int64.toBitVec_or, BitVec.getLsbD_or, hx w hw, q_set h (by omega) hw, e1, if_pos hb]
    · rw [if_neg hb, if_pos rfl]
      refine ow_some.mpr ⟨_, congrArg (fun z => (_, z)) (show nI i + 1 = nI (i + 1) from nI_1 i), fun w hw => ?_⟩
      rw [hx w hw, e1, if_neg hb]) (fun s ⟨x, hs, hx⟩ => by
    subst hs
    show ow (M_X1_broughtBy_L12 σ (nI m) x (nI (tN T))) _
    unfold M_X1_broughtBy_L12
    rw [q_copies h, bnd1_some, if_pos ((nI_leI (by omega) (by omega)).mpr (Nat.le_refl _))]
    exact ow_some.mpr hx) 0 (gL σ 29 (6 + gP g), (0 : Int32)) (Nat.zero_le _) ⟨_, rfl, fun w hw => q_set h (by omega) hw⟩
  rw [show iter (fun s : Int64 × Int32 => M_X1_broughtBy_L12 σ (nI m) s.1 s.2) FU (gL σ 29 (6 + gP g), (0 : Int32)) = some x from h1, bnd1_some]
  exact ⟨x, rfl, h2⟩
theorem bb_any {x y : Int64} (h : Qd T t l g σ τ) {m : Nat} (hx : ∀ w, w < 64 → x.toBitVec.getLsbD w = bbN g m w (tN T)) (hy : ∀ w, w < 64 → y.toBitVec.getLsbD w = decide (w < gW g)) : x = y ↔ brB g (tN T) m = true := by
  obtain ⟨hW, hO, hP, hn⟩ := q_bd h
  unfold brB
  rw [decide_eq_true_iff]
  constructor
  · intro e w hw
    rw [← hx w (by omega), e, hy w (by omega)]
    exact decide_eq_true hw
  · intro z
    rw [← Int64.toBitVec_inj]
    apply BitVec.eq_of_getLsbD_eq
    intro w hw
    rw [hx w hw, hy w hw]
    by_cases hq : w < gW g
    · rw [z w hq]; exact (decide_eq_true hq).symm
    · rw [decide_eq_false hq]
      cases hb : bbN g m w (tN T) with
      | false => rfl
      | true =>
        rcases (bbN_iff _).mp hb with q | ⟨c, _, _, q⟩
        · exact absurd (h.2.2.2.2.1.2.2.2.2.2.1 _ w q).1 hq
        · exact absurd (h.2.2.2.2.1.2.2.2.2.2.1 _ w q).1 hq
/-- the least of the fewest -/
def Lst (p : Nat → Bool) (N m : Nat) : Prop := m < N ∧ p m = true ∧ ∀ j, j < N → p j = true → b5 m < b5 j ∨ (b5 m = b5 j ∧ m ≤ j)
theorem two5 : ∀ n : Fin 6, ((1 : Int32) <<< (nI n.val &&& 31)) = nI (2 ^ n.val) ∧ ((1 : Int32) <<< (nI n.val &&& 31)) - (1 : Int32) = nI (2 ^ n.val) + (-1) ∧ 2 ^ n.val ≤ 32 ∧ 1 ≤ 2 ^ n.val ∧ (∀ c : Fin 5, c.val < n.val → (2 ^ n.val - 1).testBit c.val = true) := by decide +kernel
theorem dec5 : ∀ i : Fin 33, 1 ≤ i.val → nI i.val + (-1 : Int32) = nI (i.val - 1) := by decide +kernel
theorem br_all (h : Qd T t l g σ τ) : brB g (tN T) (2 ^ tN T - 1) = true := by
  obtain ⟨hW, hO, hP, hn⟩ := q_bd h
  have hI := h.2.2.2.2.1
  unfold brB
  rw [decide_eq_true_iff]
  intro w hw
  have q := hI.2.2.2.2.2.2.2.2.2.1 w hw
  exact (bbN_iff _).mpr (Or.inr ⟨gN g w, q.2.1, (two5 ⟨tN T, by omega⟩).2.2.2.2 ⟨gN g w, by omega⟩ q.2.1, q.2.2.2.2⟩)
theorem c_givers (h : Qd T t l g σ τ) : ∃ m, Lst (brB g (tN T)) (2 ^ tN T) m ∧ M_X1_planGivers σ = some (nI m) := by
  obtain ⟨hW, hO, hP, hn⟩ := q_bd h
  obtain ⟨t1, t2, t3, t4, t5⟩ := two5 ⟨tN T, by omega⟩
  have t2 : ((1 : Int32) <<< (nI (tN T) &&& 31)) - (1 : Int32) = nI (2 ^ tN T) + (-1) := t2
  have t3 : 2 ^ tN T ≤ 32 := t3
  have t4 : 1 ≤ 2 ^ tN T := t4
  obtain ⟨y, y1, y2⟩ := c_any h
  unfold M_X1_planGivers
  rw [y1, bnd1_some, q_copies h, bnd1_some]
  simp only [lt_eq]
  rw [bnd1_some, t2]
  obtain ⟨x, h1, h2⟩ := ow_iter (body := fun s : Int32 × Int32 => M_X1_planGivers_L24 σ y s.1 s.2) (Q := fun x => ∃ m, Lst (brB g (tN T)) (2 ^ tN T) m ∧ x = nI m) (fun k s => ∃ m i, k = i ∧ i ≤ 2 ^ tN T ∧ s = (nI m, nI i + (-1)) ∧ m < 2 ^ tN T ∧ brB g (tN T) m = true ∧ (∀ j, i ≤ j → j < 2 ^ tN T → brB g (tN T) j = true → b5 m < b5 j ∨ (b5 m = b5 j ∧ m ≤ j)) ∧ (i ≤ m ∨ i = 2 ^ tN T ∧ m = i - 1)) (fun k s ⟨m, i, hk, hi, hs, hm, hb, hj, hd⟩ => by
    subst hk
    subst hs
    show ow (M_X1_planGivers_L24 σ y (nI m) (nI k + (-1))) _
    unfold M_X1_planGivers_L24
    by_cases h0 : k = 0
    · subst h0
      rw [if_pos (by decide)]
      exact ow_some.mpr ⟨m, ⟨hm, hb, fun j => hj j (Nat.zero_le _)⟩, rfl⟩
    · have ek : nI k + (-1 : Int32) = nI (k - 1) := dec5 ⟨k, by omega⟩ (show 1 ≤ k by omega)
      have e5 := b5_le (m := m) (by omega)
      have e6 := b5_le (m := k - 1) (by omega)
      rw [ek, if_neg (fun z => by have := (nI_ltI (b := 0) (by omega) (by omega)).mp z; omega), c_b5 (by omega), bnd1_some, c_b5 (by omega), bnd1_some]
      unfold M_X1_planGivers_J46
      simp only [lt_eq]
      by_cases hq : b5 m < b5 (k - 1)
      · rw [if_pos ((nI_ltI (by omega) (by omega)).mpr hq), if_pos True.intro]
        refine ow_some.mpr ⟨k - 1, by omega, m, k - 1, rfl, by omega, rfl, hm, hb, fun j j1 j2 j3 => ?_, by omega⟩
        by_cases hjk : j = k - 1
        · subst hjk; exact Or.inl hq
        · exact hj j (by omega) j2 j3
      · obtain ⟨x, x1, x2⟩ := c_brought h (m := k - 1) (by omega)
        have xb := bb_any h x2 y2
        rw [if_neg (fun z => hq ((nI_ltI (by omega) (by omega)).mp z)), if_neg n10, x1, bnd1_some]
        by_cases hr : brB g (tN T) (k - 1) = true
        · rw [if_neg (fun z => z ((lg_cmp_eq _ _).mpr (xb.mpr hr)))]
          refine ow_some.mpr ⟨k - 1, by omega, k - 1, k - 1, rfl, by omega, rfl, by omega, hr, fun j j1 j2 j3 => ?_, by omega⟩
          by_cases hjk : j = k - 1
          · subst hjk; exact Or.inr ⟨rfl, Nat.le_refl _⟩
          · rcases hj j (by omega) j2 j3 with z | ⟨z1, z2⟩
            · exact Or.inl (by omega)
            · by_cases hlt : b5 (k - 1) < b5 j
              · exact Or.inl hlt
              · exact Or.inr ⟨by omega, j1⟩
        · rw [if_pos (fun z => hr (xb.mp ((lg_cmp_eq _ _).mp z)))]
          refine ow_some.mpr ⟨k - 1, by omega, m, k - 1, rfl, by omega, rfl, hm, hb, fun j j1 j2 j3 => ?_, by omega⟩
          by_cases hjk : j = k - 1
          · subst hjk; exact absurd j3 hr
          · exact hj j (by omega) j2 j3) FU (2 ^ tN T) (nI (2 ^ tN T) + (-1), nI (2 ^ tN T) + (-1)) (FU_big (by omega)) ⟨2 ^ tN T - 1, 2 ^ tN T, rfl, Nat.le_refl _, by rw [dec5 ⟨2 ^ tN T, by omega⟩ t4], by omega, br_all h, fun j j1 j2 => by omega, Or.inr ⟨rfl, rfl⟩⟩
  rw [h1, bnd1_some]
  obtain ⟨m, m1, m2⟩ := h2
  exact ⟨m, m1, congrArg some m2⟩
end PG
