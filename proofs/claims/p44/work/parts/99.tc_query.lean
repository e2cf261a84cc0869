/-! more of what the class answers -/
theorem mk5 : ∀ (n : Fin 6) (c : Fin 5) (b0 b1 b2 b3 b4 : Bool), c.val < n.val → ((mkN (fun i => if i = 0 then b0 else if i = 1 then b1 else if i = 2 then b2 else if i = 3 then b3 else b4) n.val >>> (nI c.val &&& 31)) &&& (1 : Int32)) = if (if c.val = 0 then b0 else if c.val = 1 then b1 else if c.val = 2 then b2 else if c.val = 3 then b3 else b4) = true then 1 else 0 := by decide +kernel
theorem mk_five {p : Nat → Bool} : ∀ n, n ≤ 5 → mkN p n = mkN (fun i => if i = 0 then p 0 else if i = 1 then p 1 else if i = 2 then p 2 else if i = 3 then p 3 else p 4) n := by
  intro n hn
  refine mkN_same n (fun c hc => ?_)
  rcases (show c = 0 ∨ c = 1 ∨ c = 2 ∨ c = 3 ∨ c = 4 by omega) with rfl | rfl | rfl | rfl | rfl <;> rfl
/-- one bit of a set of copies -/
theorem mk_bit {p : Nat → Bool} {n c : Nat} (hn : n ≤ 5) (hc : c < n) : ((mkN p n >>> (nI c &&& 31)) &&& (1 : Int32)) = if p c = true then 1 else 0 := by
  rw [mk_five n hn]
  have := mk5 ⟨n, by omega⟩ ⟨c, by omega⟩ (p 0) (p 1) (p 2) (p 3) (p 4) hc
  refine this.trans ?_
  rcases (show c = 0 ∨ c = 1 ∨ c = 2 ∨ c = 3 ∨ c = 4 by omega) with rfl | rfl | rfl | rfl | rfl <;> rfl
theorem mk1 : ∀ (n : Fin 6) (c : Fin 5), c.val < n.val → mkN (fun i => decide (i = c.val)) n.val = ((1 : Int32) <<< (nI c.val &&& 31)) := by decide +kernel
/-- whom a write is known to -/
theorem c_knowers {T : Td} {t l : Nat} {g : Gs} {σ τ : Wd} (h : Qd T t l g σ τ) {w : Nat} (hw : w < gW g) : M_X1_knowers σ (nI w) = some (mkN (fun c => knN g w (gK g c)) (tN T)) := by
  obtain ⟨hW, hO, hP, hn⟩ := q_bd h
  have hI := h.2.2.2.2.1
  have hKO : ∀ c, c < 5 → gK g c ≤ gO g := fun c hc => hI.2.2.1 c hc
  obtain ⟨r, p1, p2, p3⟩ := q_place h hw
  unfold M_X1_knowers
  rw [p1, bnd1_some]
  rcases p3 with ⟨j, hj, he, rfl⟩ | ⟨hno, rfl⟩
  · have ek : ∀ c, c < 5 → knN g w (gK g c) = decide (j < gK g c) := fun c hc => by
      have hk := hKO c hc
      cases hb : decide (j < gK g c) with
      | true =>
        exact (knN_iff _).mpr ⟨j, of_decide_eq_true hb, he⟩
      | false =>
        cases hq : knN g w (gK g c) with
        | false => rfl
        | true =>
          obtain ⟨i, hi, hie⟩ := (knN_iff _).mp hq
          have := hI.2.2.2.2.2.2.2.2.1 i j (by omega) hj (hie.trans he.symm)
          exact absurd (show j < gK g c by omega) (of_decide_eq_false hb)
    obtain ⟨x, h1, h2⟩ := ow_for (body := fun s : Int32 × Int32 => M_X1_knowers_L11 σ (nI j) s.1 s.2) (Q := fun x => x = mkN (fun c => knN g w (gK g c)) (tN T)) (fun i s => s = (mkN (fun c => knN g w (gK g c)) i, nI i)) (tN T) (FU_big (by omega)) (fun i s hi hs => by
      subst hs
      show ow (M_X1_knowers_L11 σ (nI j) (mkN (fun c => knN g w (gK g c)) i) (nI i)) _
      unfold M_X1_knowers_L11
      have e1 : mkN (fun c => knN g w (gK g c)) (i + 1) = if knN g w (gK g i) = true then mkN (fun c => knN g w (gK g c)) i ||| ((1 : Int32) <<< (nI i &&& 31)) else mkN (fun c => knN g w (gK g c)) i := rfl
      have hK := hKO i (by omega)
      rw [ek i (by omega)] at e1
      rw [q_copies h, bnd1_some, if_neg (fun z => by have := (nI_leI (by omega) (by omega)).mp z; omega), if_neg (fun z : nI j = -2 => nI_n0 (show j < 2 ^ 31 by omega) (z ▸ m2_neg)), (q_known h (by omega)).1, bnd1_some, nI_1]
      simp only [lt_eq]
      by_cases hA : gK g i ≤ j
      · rw [if_pos ((nI_leI (by omega) (by omega)).mpr hA)]
        refine ow_some.mpr ?_
        show _ = _
        rw [e1, if_neg (by simp; omega)]
      · rw [if_neg (fun z => hA ((nI_leI (by omega) (by omega)).mp z))]
        refine ow_some.mpr ?_
        show _ = _
        rw [e1, if_pos (by simp; omega)]) (fun s hs => by
      subst hs
      show ow (M_X1_knowers_L11 σ (nI j) (mkN (fun c => knN g w (gK g c)) (tN T)) (nI (tN T))) _
      unfold M_X1_knowers_L11
      rw [q_copies h, bnd1_some, if_pos ((nI_leI (by omega) (by omega)).mpr (Nat.le_refl _))]
      exact ow_some.mpr rfl) 0 ((0 : Int32), (0 : Int32)) (Nat.zero_le _) rfl
    rw [show iter (fun s : Int32 × Int32 => M_X1_knowers_L11 σ (nI j) s.1 s.2) FU ((0 : Int32), (0 : Int32)) = some x from h1, bnd1_some]
    exact congrArg some h2
  · have e : M_X1_knowers_L11 σ (-2) 0 0 = some (.inr 0) := by
      unfold M_X1_knowers_L11
      rw [q_copies h, bnd1_some, if_neg (show ¬ nI (tN T) ≤ 0 from fun z => by have := (nI_leI (b := 0) (by omega) (by decide)).mp z; omega), if_pos rfl]
    obtain ⟨m, hm⟩ : ∃ m, FU = m + 1 := ⟨999999, by unfold FU; omega⟩
    rw [hm, it_x (x := 0) (by exact e), bnd1_some]
    have : mkN (fun c => knN g w (gK g c)) (tN T) = mkN (fun _ => false) (tN T) := mkN_same _ (fun c hc => by
      cases hq : knN g w (gK g c) with
      | false => rfl
      | true =>
        obtain ⟨i, hi, hie⟩ := (knN_iff _).mp hq
        exact absurd hie (hno i (by have := hKO c (by omega); omega)))
    rw [this, mk_0]
    rfl
/-- behind what a session wants -/
def bhN (g : Gs) (c : Nat) (F : Nat → Nat) : Nat → Bool
  | 0 => false
  | o + 1 => bhN g c F o || decide (vecN g c o (gW g) < F o)
theorem bhN_iff {g : Gs} {c : Nat} {F : Nat → Nat} : ∀ n, bhN g c F n = true ↔ ∃ o, o < n ∧ vecN g c o (gW g) < F o := by
  intro n
  induction n with
  | zero => exact ⟨fun z => absurd (show false = true from z) (by decide), fun ⟨o, ho, _⟩ => absurd ho (by omega)⟩
  | succ n ih =>
    show (bhN g c F n || decide (vecN g c n (gW g) < F n)) = true ↔ _
    rw [Bool.or_eq_true, ih, decide_eq_true_eq]
    constructor
    · rintro (⟨o, h1, h2⟩ | h)
      · exact ⟨o, by omega, h2⟩
      · exact ⟨n, by omega, h⟩
    · rintro ⟨o, h1, h2⟩
      by_cases e : o = n
      · subst e; exact Or.inr h2
      · exact Or.inl ⟨o, by omega, h2⟩
/-- whether asking, making is refused -/
def rfA (T : Td) (g : Gs) (s c : Nat) : Bool := (decide (gQ g s % 2 = 1) && bhN g c (gU g s) (tN T)) || (decide (gQ g s / 2 % 2 = 1) && bhN g c (gE g s) (tN T))
def rfM (T : Td) (g : Gs) (s c : Nat) : Bool := (decide (gQ g s / 4 % 2 = 1) && bhN g c (gE g s) (tN T)) || (decide (gQ g s / 8 = 1) && bhN g c (gU g s) (tN T))
theorem c_rfA {T : Td} {t l : Nat} {g : Gs} {σ τ : Wd} (h : Qd T t l g σ τ) {s c : Nat} (hs : s < 4) (hc : c < 5) : M_X1_refusesAsk σ (nI s) (nI c) = some (boI (rfA T g s c)) := by
  obtain ⟨q15, qM, fE, fU, mE, mU⟩ := q_sess h hs
  obtain ⟨b1, b11, b12, b13⟩ := c_breaks (m := 1) (b := 76) h hs hc (by omega) fU
  obtain ⟨b2, b21, b22, b23⟩ := c_breaks (m := 2) (b := 56) h hs hc (by omega) fE
  have i1 : b1 = 1 ↔ (decide (gQ g s % 2 = 1) && bhN g c (gU g s) (tN T)) = true := by
    rw [Bool.and_eq_true, decide_eq_true_eq, bhN_iff]
    exact b12.trans (and_congr (bt_1 ⟨gQ g s, by omega⟩) Iff.rfl)
  have i2 : b2 = 1 ↔ (decide (gQ g s / 2 % 2 = 1) && bhN g c (gE g s) (tN T)) = true := by
    rw [Bool.and_eq_true, decide_eq_true_eq, bhN_iff]
    exact b22.trans (and_congr (bt_2 ⟨gQ g s, by omega⟩) Iff.rfl)
  unfold M_X1_refusesAsk rfA
  rw [show (76 : Int32) = nI 76 from rfl, b13, bnd1_some, show (56 : Int32) = nI 56 from rfl, b23, bnd1_some]
  cases e1 : (decide (gQ g s % 2 = 1) && bhN g c (gU g s) (tN T))
  · rw [b11.resolve_right (fun z => by rw [i1.mp z] at e1; exact absurd e1 (by decide)), if_neg z00, Bool.false_or]
    cases e2 : (decide (gQ g s / 2 % 2 = 1) && bhN g c (gE g s) (tN T))
    · rw [b21.resolve_right (fun z => by rw [i2.mp z] at e2; exact absurd e2 (by decide)), if_pos rfl]
      rfl
    · rw [i2.mpr e2, if_neg n10]
      rfl
  · rw [i1.mpr e1, if_pos n01, Bool.true_or]
    rfl
theorem c_rfM {T : Td} {t l : Nat} {g : Gs} {σ τ : Wd} (h : Qd T t l g σ τ) {s c : Nat} (hs : s < 4) (hc : c < 5) : M_X1_refusesMake σ (nI s) (nI c) = some (boI (rfM T g s c)) := by
  obtain ⟨q15, qM, fE, fU, mE, mU⟩ := q_sess h hs
  obtain ⟨b1, b11, b12, b13⟩ := c_breaks (m := 4) (b := 56) h hs hc (by omega) fE
  obtain ⟨b2, b21, b22, b23⟩ := c_breaks (m := 8) (b := 76) h hs hc (by omega) fU
  have i1 : b1 = 1 ↔ (decide (gQ g s / 4 % 2 = 1) && bhN g c (gE g s) (tN T)) = true := by
    rw [Bool.and_eq_true, decide_eq_true_eq, bhN_iff]
    exact b12.trans (and_congr (bt_4 ⟨gQ g s, by omega⟩) Iff.rfl)
  have i2 : b2 = 1 ↔ (decide (gQ g s / 8 = 1) && bhN g c (gU g s) (tN T)) = true := by
    rw [Bool.and_eq_true, decide_eq_true_eq, bhN_iff]
    exact b22.trans (and_congr (bt_8 ⟨gQ g s, by omega⟩) Iff.rfl)
  unfold M_X1_refusesMake rfM
  rw [show (56 : Int32) = nI 56 from rfl, b13, bnd1_some, show (76 : Int32) = nI 76 from rfl, b23, bnd1_some]
  cases e1 : (decide (gQ g s / 4 % 2 = 1) && bhN g c (gE g s) (tN T))
  · rw [b11.resolve_right (fun z => by rw [i1.mp z] at e1; exact absurd e1 (by decide)), if_neg z00, Bool.false_or]
    cases e2 : (decide (gQ g s / 8 = 1) && bhN g c (gU g s) (tN T))
    · rw [b21.resolve_right (fun z => by rw [i2.mp z] at e2; exact absurd e2 (by decide)), if_pos rfl]
      rfl
    · rw [i2.mpr e2, if_neg n10]
      rfl
  · rw [i1.mpr e1, if_pos n01, Bool.true_or]
    rfl
section XQ
variable {T : Td} {g : Gs} {un : Nat} {hs sl : Nat → Gs} {hl : Nat → Nat} {σ : Wd}
theorem x_write5 (h : At T g un hs sl hl σ) {w : Nat} (hw : w < gW g) : M_X8_write σ (nI w) 5 = some (mkN (fun c => knN g w (gK g c)) (tN T)) := by
  obtain ⟨t, l, τ, hQ⟩ := h.qd
  unfold M_X8_write
  rw [x_isWrite h hw, bnd1_some, if_pos n01, if_neg (by decide), if_neg (by decide), if_neg (by decide), if_neg (by decide), if_neg (by decide), if_pos rfl, c_knowers hQ hw, bnd1_some]
theorem x_may (h : At T g un hs sl hl σ) {s : Nat} (hs4 : s < 4) (b : Bool) : M_X8_may σ (nI s) (boI b) = some (mkN (fun c => !(if b = true then rfM T g s c else rfA T g s c)) (tN T)) := by
  obtain ⟨t, l, τ, hQ⟩ := h.qd
  have n5 := h.n5
  obtain ⟨ht, h4, hl2, h18, hTI, hTC, hTM⟩ := gR_mid hQ.1
  unfold M_X8_may
  rw [c_isSession_t hs4, bnd1_some, if_pos n01]
  obtain ⟨x, h1, h2⟩ := ow_for (body := fun x : Int32 × Int32 => M_X8_may_L14 σ (nI s) (boI b) x.1 x.2) (Q := fun x => x = mkN (fun c => !(if b = true then rfM T g s c else rfA T g s c)) (tN T)) (fun i x => x = (mkN (fun c => !(if b = true then rfM T g s c else rfA T g s c)) i, nI i)) (tN T) (FU_big (by omega)) (fun i x hi hx => by
    subst hx
    show ow (M_X8_may_L14 σ (nI s) (boI b) (mkN (fun c => !(if b = true then rfM T g s c else rfA T g s c)) i) (nI i)) _
    have e1 : mkN (fun c => !(if b = true then rfM T g s c else rfA T g s c)) (i + 1) = if (!(if b = true then rfM T g s i else rfA T g s i)) = true then mkN (fun c => !(if b = true then rfM T g s c else rfA T g s c)) i ||| ((1 : Int32) <<< (nI i &&& 31)) else mkN (fun c => !(if b = true then rfM T g s c else rfA T g s c)) i := rfl
    have eR : (if boI b = 0 then bnd1 (M_X1_refusesAsk σ (nI s) (nI i)) (fun r50 => M_X8_may_J53 σ (nI s) (boI b) (mkN (fun c => !(if b = true then rfM T g s c else rfA T g s c)) i) (nI i) r50) else bnd1 (M_X1_refusesMake σ (nI s) (nI i)) (fun r37 => M_X8_may_J53 σ (nI s) (boI b) (mkN (fun c => !(if b = true then rfM T g s c else rfA T g s c)) i) (nI i) r37)) = M_X8_may_J53 σ (nI s) (boI b) (mkN (fun c => !(if b = true then rfM T g s c else rfA T g s c)) i) (nI i) (boI (if b = true then rfM T g s i else rfA T g s i)) := by
      cases b
      · rw [if_pos (show boI false = 0 from rfl), c_rfA hQ hs4 (by omega), bnd1_some]
        rfl
      · rw [if_neg (show ¬ boI true = 0 from n10), c_rfM hQ hs4 (by omega), bnd1_some]
        rfl
    unfold M_X8_may_L14
    rw [h4, chk_pos ht, hTC.1.1, if_neg (fun z => by have := (nI_leI (by omega) (by omega)).mp z; omega), eR]
    unfold M_X8_may_J53
    simp only [lt_eq, nI_1]
    generalize (if b = true then rfM T g s i else rfA T g s i) = q at e1 ⊢
    cases q
    · rw [if_neg (show ¬ boI false ≠ 0 from z00)]
      refine ow_some.mpr ?_
      show _ = _
      rw [e1, if_pos (by decide)]
    · rw [if_pos (show boI true ≠ 0 from n01)]
      refine ow_some.mpr ?_
      show _ = _
      rw [e1, if_neg (by decide)]) (fun x hx => by
    subst hx
    show ow (M_X8_may_L14 σ (nI s) (boI b) _ (nI (tN T))) _
    unfold M_X8_may_L14
    rw [h4, chk_pos ht, hTC.1.1, if_pos ((nI_leI (by omega) (by omega)).mpr (Nat.le_refl _))]
    exact ow_some.mpr rfl) 0 ((0 : Int32), (0 : Int32)) (Nat.zero_le _) rfl
  rw [show iter (fun x : Int32 × Int32 => M_X8_may_L14 σ (nI s) (boI b) x.1 x.2) FU ((0 : Int32), (0 : Int32)) = some x from h1, bnd1_some]
  exact congrArg some h2
/-- the class has played a copy's log -/
theorem x_play (h : At T g un hs sl hl σ) {c : Nat} (hc : c < tN T) : ∃ t l τ σ', Qd T t l g σ τ ∧ famT t ∧ gR σ 0 4 = t ∧ M_X4_play σ 108 t (nI c) = some σ' ∧ FQ 108 σ σ' ∧ PlC T g c 108 σ' ∧ KC σ σ' := by
  obtain ⟨t, l, τ, hQ⟩ := h.qd
  have n5 := h.n5
  obtain ⟨ht, h4, hl2, h18, hTI, hTC, hTM⟩ := gR_mid hQ.1
  obtain ⟨σ', p1, p2, p3⟩ := c_play hQ (q := 108) (c := c) (by decide) (by omega)
  exact ⟨t, l, τ, σ', hQ, ht, h4, p1, p2, p3, p2.kc (by decide)⟩
theorem At.lnW (h : At T g un hs sl hl σ) {c : Nat} (hc : c < tN T) : ln g c ≤ gW g ∧ gK g c ≤ ln g c ∧ ln g c ≤ 60 := by
  have n5 := h.n5
  have a := (ln_facts h.inv (show c < 5 by omega)).2.2.1
  exact ⟨a, kn_ln (c := c) h.inv, by omega⟩
theorem x_cell (h : At T g un hs sl hl σ) {c k : Nat} (hc : c < tN T) (hk : k < tC T) : (∃ σ', M_X8_cell σ (nI c) (nI k) 0 = some (envS T g (lf g c) (ln g c) k, σ') ∧ At T g un hs sl hl σ') ∧ ∃ σ', M_X8_cell σ (nI c) (nI k) 1 = some (envS T g (lf g c) (gK g c) k, σ') ∧ At T g un hs sl hl σ' := by
  obtain ⟨t, l, τ, σ', hQ, ht, h4, p1, p2, p3, kc⟩ := x_play h hc
  have n5 := h.n5
  have lw := h.lnW hc
  refine ⟨⟨σ', ?_, h.kc kc⟩, σ', ?_, h.kc kc⟩
  · unfold M_X8_cell
    rw [x_isCopy h hc, bnd1_some, if_neg n10, x_isCell h hk, bnd1_some, if_pos n01, h4, chk_pos ht, p1, bnd1_some, if_pos rfl, c_last p3 (by omega) hk n5.2.2.1, bnd1_some]
  · unfold M_X8_cell
    rw [x_isCopy h hc, bnd1_some, if_neg n10, x_isCell h hk, bnd1_some, if_pos n01, h4, chk_pos ht, p1, bnd1_some, if_neg n10, (q_known (hQ.kc kc) (show c < 5 by omega)).1, bnd1_some, c_behind p3 (by omega) lw.2.1 hk n5.2.2.1, bnd1_some]
theorem x_behind (h : At T g un hs sl hl σ) {c k i : Nat} (hc : c < tN T) (hk : k < tC T) (hi : i ≤ ln g c) : ∃ σ', M_X8_behind σ (nI c) (nI k) (nI i) = some (envS T g (lf g c) i k, σ') ∧ At T g un hs sl hl σ' := by
  obtain ⟨t, l, τ, σ', hQ, ht, h4, p1, p2, p3, kc⟩ := x_play h hc
  have n5 := h.n5
  have lw := h.lnW hc
  refine ⟨σ', ?_, h.kc kc⟩
  unfold M_X8_behind
  rw [x_isCopy h hc, bnd1_some, if_neg n10, x_isCell h hk, bnd1_some, if_neg n10, if_pos (i0le (by omega)), h4, chk_pos ht, p1, bnd1_some, c_behind p3 (by omega) hi hk n5.2.2.1, bnd1_some]
/-- where a write lies in a log -/
theorem x_placeC (h : At T g un hs sl hl σ) {c i : Nat} (hc : c < tN T) (hi : i < ln g c) {σ' : Wd} (p3 : PlC T g c 108 σ') : M_X4_placeOf σ' 108 (nI (lf g c i)) = some (nI i) := by
  have n5 := h.n5
  have lx := ln_facts h.inv (show c < 5 by omega)
  have lw := h.lnW hc
  have cw := c_place (w := lf g c i) (f := lf g c) p3.1 lw.2.2 (by have := lx.1 i hi; omega) (fun i hi => ⟨p3.2.1 i hi, by have := lx.1 i hi; omega⟩)
  obtain ⟨i', hi', hie', cw⟩ := cw.resolve_right (fun z => z.1 i hi rfl)
  obtain rfl : i' = i := lg_u h.inv (show c < 5 by omega) hi' hi hie'
  exact cw
theorem x_outcome (h : At T g un hs sl hl σ) {c i : Nat} (hc : c < tN T) (hi : i < ln g c) : ∃ σ', M_X8_outcome σ (nI c) (nI (lf g c i)) = some (outS T g (lf g c) i, σ') ∧ At T g un hs sl hl σ' := by
  obtain ⟨t, l, τ, σ', hQ, ht, h4, p1, p2, p3, kc⟩ := x_play h hc
  have n5 := h.n5
  have lx := ln_facts h.inv (show c < 5 by omega)
  have lw := h.lnW hc
  refine ⟨σ', ?_, h.kc kc⟩
  unfold M_X8_outcome M_X4_outcomeAt
  rw [x_isCopy h hc, bnd1_some, if_neg n10, x_isWrite h (lx.1 i hi), bnd1_some, if_pos n01, q_has hQ (by omega) (by have := lx.1 i hi; omega), bnd1_some, if_pos (lx.2.2.2.1 i hi), if_pos n01, h4, chk_pos ht, p1, bnd1_some, x_placeC h hc hi p3, bnd1_some, if_neg (nI_n0 (by omega)), p3.1, if_neg (fun z => by have := (nI_leI (by omega) (by omega)).mp z; omega), chk_pos ((ib_nI (by omega)).mpr (by omega)), ix_nI (by omega), (p3.2.2.1 i hi).1, bnd1_some]
theorem x_hangs (h : At T g un hs sl hl σ) {c i : Nat} (hc : c < tN T) (hi : i < ln g c) : (∃ σ', M_X8_hangs σ (nI c) (nI (lf g c i)) 0 = some (nI (cH T g (lf g c) i (ln g c)), σ') ∧ At T g un hs sl hl σ') ∧ ∃ σ', M_X8_hangs σ (nI c) (nI (lf g c i)) 1 = some (fH T g (lf g c) i (ln g c), σ') ∧ At T g un hs sl hl σ' := by
  obtain ⟨t, l, τ, σ', hQ, ht, h4, p1, p2, p3, kc⟩ := x_play h hc
  have n5 := h.n5
  have lx := ln_facts h.inv (show c < 5 by omega)
  have lw := h.lnW hc
  have hQ' := hQ.kc kc
  obtain ⟨_, h4', _, _, _, _, _⟩ := gR_mid hQ'.1
  obtain ⟨σ2, w1, w2, w3, w4⟩ := c_weigh hQ' (q := 108) (by decide) (show c < 5 by omega) p3 hi
  have e : ∀ v, (v = 0 ∨ v = 1) → M_X8_hangs σ (nI c) (nI (lf g c i)) v = if v ≠ 0 then some (fH T g (lf g c) i (ln g c), σ2) else some (nI (cH T g (lf g c) i (ln g c)), σ2) := fun v hv => by
    unfold M_X8_hangs
    rw [x_isCopy h hc, bnd1_some, if_neg n10, x_isWrite h (lx.1 i hi), bnd1_some, if_neg n10, if_neg (by rcases hv with rfl | rfl <;> decide), if_pos (by rcases hv with rfl | rfl <;> decide), q_has hQ (by omega) (by have := lx.1 i hi; omega), bnd1_some, if_pos (lx.2.2.2.1 i hi), if_pos n01, h4, chk_pos ht, p1, bnd1_some, h4', chk_pos ht, x_placeC h hc hi p3, bnd1_some, w1, bnd1_some, w3, w4]
  refine ⟨⟨σ2, ?_, h.kc (kc.trans (w2.kc (by decide)))⟩, σ2, ?_, h.kc (kc.trans (w2.kc (by decide)))⟩
  · rw [e 0 (Or.inl rfl), if_neg z00]
  · rw [e 1 (Or.inr rfl), if_pos n01]
theorem x_ahead (h : At T g un hs sl hl σ) {c i j : Nat} (hc : c < tN T) (hij : i < j) (hj : j < ln g c) : ∃ σ', M_X8_ahead σ (nI c) (nI (lf g c i)) (nI (lf g c j)) = some (1, σ') ∧ At T g un hs sl hl σ' := by
  obtain ⟨t, l, τ, hQ⟩ := h.qd
  have n5 := h.n5
  have lx := ln_facts h.inv (show c < 5 by omega)
  have lw := h.lnW hc
  obtain ⟨F, p1, p2⟩ := x_line hQ hc
  have pl : ∀ k, k < ln g c → M_X4_placeOf (WL σ 108 F (ln g c)) 108 (nI (lf g c k)) = some (nI k) := fun k hk => by
    have cw := c_place (w := lf g c k) (f := lf g c) (WL_n (σ := σ) (q := 108) (F := F) (n := ln g c)) lw.2.2 (by have := lx.1 k hk; omega) (fun i hi => ⟨WL_f.trans (p2 i hi), by have := lx.1 i hi; omega⟩)
    obtain ⟨i', hi', hie', cw⟩ := cw.resolve_right (fun z => z.1 k hk rfl)
    obtain rfl : i' = k := lg_u h.inv (show c < 5 by omega) hi' hk hie'
    exact cw
  refine ⟨WL σ 108 F (ln g c), ?_, h.kc (WL_KC (by decide) KC.refl)⟩
  have hne : nI (lf g c i) ≠ nI (lf g c j) := fun z => lx.2.1 i j hij hj ((nI_eq (by have := lx.1 i (by omega); omega) (by have := lx.1 j hj; omega)).mp z)
  unfold M_X8_ahead
  rw [x_isCopy h hc, bnd1_some, if_neg n10, x_isWrite h (lx.1 i (by omega)), bnd1_some, if_neg n10, x_isWrite h (lx.1 j hj), bnd1_some, if_neg n10, if_pos hne, q_has hQ (by omega) (by have := lx.1 i (by omega); omega), bnd1_some, if_pos (lx.2.2.2.1 i (by omega)), if_neg n10, q_has hQ (by omega) (by have := lx.1 j hj; omega), bnd1_some, if_pos (lx.2.2.2.1 j hj), if_pos n01, p1, bnd1_some, pl i (by omega), bnd1_some, pl j hj, bnd1_some, if_neg (fun z => by have := (nI_leI (by omega) (by omega)).mp z; omega)]
theorem x_alike (h : At T g un hs sl hl σ) {a b : Nat} (ha : a < tN T) (hb : b < tN T) : M_X8_alike σ (nI a) (nI b) = some (boI (al3 g a b)) := by
  obtain ⟨t, l, τ, hQ⟩ := h.qd
  have n5 := h.n5
  unfold M_X8_alike
  rw [are_t (x_isCopy h ha) (x_isCopy h hb), bnd1_some, if_pos n01, c_al3 hQ (by omega) (by omega), bnd1_some]
  cases al3 g a b
  · rw [if_pos (show boI false = 0 from rfl)]
    rfl
  · rw [if_neg (show ¬ boI true = 0 from n10)]
    rfl
theorem x_lacks (h : At T g un hs sl hl σ) {a b : Nat} (ha : a < tN T) (hb : b < tN T) : M_X8_lacks σ (nI a) (nI b) = some (nI (lkN g a b (gW g))) := by
  obtain ⟨t, l, τ, hQ⟩ := h.qd
  have n5 := h.n5
  unfold M_X8_lacks
  rw [are_t (x_isCopy h ha) (x_isCopy h hb), bnd1_some, if_neg n10, c_setOf (by omega), bnd1_some, c_setOf (by omega), bnd1_some, c_lacks hQ (by omega) (by omega), bnd1_some]
theorem x_share (h : At T g un hs sl hl σ) {c : Nat} (hc : c < tN T) (hW0 : 0 < gW g) : M_X8_share σ (nI c) = some (nI (1000 * ln g c / gW g)) := by
  obtain ⟨t, l, τ, hQ⟩ := h.qd
  have n5 := h.n5
  have lw := h.lnW hc
  have f := fl_ok ⟨ln g c, by omega⟩ ⟨gW g, by omega⟩ hW0 lw.1
  unfold M_X8_share
  rw [x_isCopy h hc, bnd1_some, if_pos n01, q_writes hQ, bnd1_some, if_pos (fun z => by have := (nI_eq (b := 0) (by omega) (by decide)).mp z; omega), c_setOf (by omega), bnd1_some, c_count hQ (by omega), bnd1_some, ← lgn_cn hQ.2.2.2.2.1 (by omega), chk_pos f.1, chk_pos f.2.1, lt_eq]
  exact congrArg some f.2.2
theorem x_fork (h : At T g un hs sl hl σ) {a b : Nat} (ha : a < tN T) (hb : b < tN T) : ∃ r σ', AlS (lf g a) (lf g b) (ln g a) (ln g b) r ∧ M_X8_fork σ (nI a) (nI b) = some (nI r, σ') ∧ At T g un hs sl hl σ' := by
  obtain ⟨t, l, τ, hQ⟩ := h.qd
  have n5 := h.n5
  obtain ⟨F, p1, p2⟩ := x_line hQ ha
  obtain ⟨F', p3, p4⟩ := c_line (q := 116) (c := b) (hQ.WL (q := 108) (F := F) (n := ln g a) (by decide)) (by decide) (by omega)
  have lx := ln_facts h.inv (show a < 5 by omega)
  have lx2 := ln_facts h.inv (show b < 5 by omega)
  have la := h.lnW ha
  have lb := h.lnW hb
  obtain ⟨r, a1, a2⟩ := c_alike (σ := WL (WL σ 108 F (ln g a)) 116 F' (ln g b)) (a := 111) (b := 119) (f := lf g a) (h := lf g b) la.2.2 lb.2.2 (fun i hi => ⟨by rw [WL_o (by omega) (by omega)]; exact (WL_f (q := 108)).trans (p2 i hi), by have := lx.1 i hi; omega⟩) (fun i hi => ⟨(WL_f (q := 116)).trans (p4 i hi), by have := lx2.1 i hi; omega⟩)
  refine ⟨r, _, a1, ?_, h.kc (WL_KC (q := 116) (F := F') (n := ln g b) (by decide) (WL_KC (q := 108) (F := F) (n := ln g a) (by decide) KC.refl))⟩
  unfold M_X8_fork
  have p3 : M_X4_line (WL σ 108 F (ln g a)) 116 (nI b) = some (WL (WL σ 108 F (ln g a)) 116 F' (ln g b)) := p3
  rw [are_t (x_isCopy h ha) (x_isCopy h hb), bnd1_some, if_pos n01, p1, bnd1_some, p3, bnd1_some, WL_n, show gI (WL (WL σ 108 F (ln g a)) 116 F' (ln g b)) 108 2 = nI (ln g a) from (WL_o (by omega) (by omega)).trans WL_n, show (108 : Nat) + 3 = 111 from rfl, show (116 : Nat) + 3 = 119 from rfl, a2, bnd1_some]
theorem x_count16 (h : At T g un hs sl hl σ) : M_X8_count σ 16 = some (rfN g 4, σ) := by
  obtain ⟨t, l, τ, hQ⟩ := h.qd
  rw [show (16 : Int32) = nI 16 from rfl]
  unfold M_X8_count
  rw [if_neg (show ¬ nI 16 = 0 by decide), if_neg (show ¬ nI 16 = 1 by decide), if_neg (show ¬ nI 16 = 2 by decide), if_neg (show ¬ nI 16 = 3 by decide), if_neg (show ¬ nI 16 = 4 by decide), if_neg (show ¬ nI 16 = 5 by decide), if_neg (show ¬ nI 16 = 6 by decide), if_neg (show ¬ nI 16 = 7 by decide), if_neg (show ¬ nI 16 = 8 by decide), if_neg (show ¬ nI 16 = 9 by decide)]
  unfold M_X8_countFurther
  rw [if_neg (show ¬ nI 16 = 10 by decide), if_neg (show ¬ nI 16 = 11 by decide), if_neg (show ¬ nI 16 = 12 by decide), if_neg (show ¬ nI 16 = 13 by decide), if_neg (show ¬ nI 16 = 14 by decide), if_neg (show ¬ nI 16 = 15 by decide), if_pos (show nI 16 = 16 by decide), c_refused hQ, bnd1_some, bnd2_some]
theorem x_count17 (h : At T g un hs sl hl σ) : ∃ σ', M_X8_count σ 17 = some (nI (mgN T g (gP g)), σ') ∧ At T g un hs sl hl σ' := by
  obtain ⟨t, l, τ, hQ⟩ := h.qd
  have n5 := h.n5
  obtain ⟨σ', p1, p2, p3⟩ := c_two hQ (c := gP g) (by omega)
  refine ⟨σ', ?_, h.kc p3⟩
  rw [show (17 : Int32) = nI 17 from rfl]
  unfold M_X8_count
  rw [if_neg (show ¬ nI 17 = 0 by decide), if_neg (show ¬ nI 17 = 1 by decide), if_neg (show ¬ nI 17 = 2 by decide), if_neg (show ¬ nI 17 = 3 by decide), if_neg (show ¬ nI 17 = 4 by decide), if_neg (show ¬ nI 17 = 5 by decide), if_neg (show ¬ nI 17 = 6 by decide), if_neg (show ¬ nI 17 = 7 by decide), if_neg (show ¬ nI 17 = 8 by decide), if_neg (show ¬ nI 17 = 9 by decide)]
  unfold M_X8_countFurther
  rw [if_neg (show ¬ nI 17 = 10 by decide), if_neg (show ¬ nI 17 = 11 by decide), if_neg (show ¬ nI 17 = 12 by decide), if_neg (show ¬ nI 17 = 13 by decide), if_neg (show ¬ nI 17 = 14 by decide), if_neg (show ¬ nI 17 = 15 by decide), if_neg (show ¬ nI 17 = 16 by decide), if_pos (show nI 17 = 17 by decide), show M_X1_primary σ = some (nI (gP g)) from c_primary hQ.2.1.1.2.1, bnd1_some, p1, bnd2_some, bnd2_some]
theorem x_count18 (h : At T g un hs sl hl σ) : ∃ σ', M_X8_count σ 18 = some (nI (idN T g (gP g)), σ') ∧ At T g un hs sl hl σ' := by
  obtain ⟨t, l, τ, hQ⟩ := h.qd
  have n5 := h.n5
  obtain ⟨σ', p1, p2, p3⟩ := c_two hQ (c := gP g) (by omega)
  refine ⟨σ', ?_, h.kc p3⟩
  rw [show (18 : Int32) = nI 18 from rfl]
  unfold M_X8_count
  rw [if_neg (show ¬ nI 18 = 0 by decide), if_neg (show ¬ nI 18 = 1 by decide), if_neg (show ¬ nI 18 = 2 by decide), if_neg (show ¬ nI 18 = 3 by decide), if_neg (show ¬ nI 18 = 4 by decide), if_neg (show ¬ nI 18 = 5 by decide), if_neg (show ¬ nI 18 = 6 by decide), if_neg (show ¬ nI 18 = 7 by decide), if_neg (show ¬ nI 18 = 8 by decide), if_neg (show ¬ nI 18 = 9 by decide)]
  unfold M_X8_countFurther
  rw [if_neg (show ¬ nI 18 = 10 by decide), if_neg (show ¬ nI 18 = 11 by decide), if_neg (show ¬ nI 18 = 12 by decide), if_neg (show ¬ nI 18 = 13 by decide), if_neg (show ¬ nI 18 = 14 by decide), if_neg (show ¬ nI 18 = 15 by decide), if_neg (show ¬ nI 18 = 16 by decide), if_neg (show ¬ nI 18 = 17 by decide), if_pos (show nI 18 = 18 by decide), show M_X1_primary σ = some (nI (gP g)) from c_primary hQ.2.1.1.2.1, bnd1_some, p2, bnd2_some, bnd2_some]
end XQ
