/-! the law's steps: what holds after each -/
/-- what the law's steps keep -/
def SI (k : Nat) (g : Gs) : Prop := gW g ≤ k ∧ gC g ≤ k ∧ (∀ c, iC g 2 c = iC g 3 c) ∧ ∀ c, ∃ r, iC g 0 c = nI r ∧ r ≤ 120 * k
theorem SI.up {k k' : Nat} {g : Gs} (h : SI k g) (hk : k ≤ k') : SI k' g := by
  obtain ⟨a, b, c, d⟩ := h
  exact ⟨by omega, by omega, c, fun x => by obtain ⟨r, d1, d2⟩ := d x; exact ⟨r, d1, by omega⟩⟩
theorem SI.bal {k : Nat} {g : Gs} (h : SI k g) : ∀ n, smN g 2 n = smN g 3 n := by
  intro n
  induction n with
  | zero => rfl
  | succ n ih =>
    show smN g 2 n + iC g 2 n = smN g 3 n + iC g 3 n
    rw [ih, h.2.2.1]
section ST
variable {T : Td} {g : Gs} {un : Nat} {hs sl : Nat → Gs} {hl : Nat → Nat} {σ : Wd} {q : Lq}
/-- the log of one copy, place by place -/
theorem s_loop1705 {v8 : Int32} {c : Nat} (hc : c < tN T) : ∀ (d i fu : Nat) (σ : Wd), i + d = ln g c → d < fu → At T g un hs sl hl σ → ∃ σ', iter (fun s : Int32 × Int32 × Wd => M_L_law_L1705 q (nI (tN T)) (nI (tC T)) v8 (nI c) (nI (ln g c)) (nI (gK g c)) s.1 s.2.1 s.2.2) fu ((1 : Int32), nI i, σ) = some (1, σ') ∧ At T g un hs sl hl σ' := by
  intro d
  induction d with
  | zero =>
    intro i fu σ hk hf h
    obtain ⟨m, rfl⟩ : ∃ m, fu = m + 1 := ⟨fu - 1, by omega⟩
    obtain rfl : i = ln g c := by omega
    have n5 := h.n5
    have lw := h.lnW hc
    refine ⟨σ, it_x ?_, h⟩
    show M_L_law_L1705 q (nI (tN T)) (nI (tC T)) v8 (nI c) (nI (ln g c)) (nI (gK g c)) 1 (nI (ln g c)) σ = _
    unfold M_L_law_L1705
    rw [if_pos ((nI_leI (by omega) (by omega)).mpr (Nat.le_refl _))]
  | succ d ih =>
    intro i fu σ hk hf h
    obtain ⟨m, rfl⟩ : ∃ m, fu = m + 1 := ⟨fu - 1, by omega⟩
    have n5 := h.n5
    have hI := h.inv
    have lw := h.lnW hc
    have hi : i < ln g c := by omega
    have L := logC hI n5.2.1 hc
    have kO := hI.2.2.1 c (by omega)
    obtain ⟨σ1, e1, h1⟩ := x_log h (i := i) hc (by omega)
    rw [if_pos hi] at e1
    have hwW := L.lt i hi
    have hAw : gA g c (lf g c i) = 1 := (ln_facts hI (show c < 5 by omega)).2.2.2.1 i hi
    obtain ⟨w1, w2, w3, w4, w5⟩ := hI.2.2.2.2.2.2.2.2.2.1 _ hwW
    have fin : ∀ (σp : Wd) (p : Int32), At T g un hs sl hl σp → (i ≠ 0 → p = nI (lf g c (i - 1))) → ∃ σ', M_L_law_J1741 q σp 1 (nI (tN T)) (nI (tC T)) v8 (nI c) (nI (ln g c)) (nI (gK g c)) (nI i) (nI (lf g c i)) p = some (.inl (1, nI (i + 1), σ')) ∧ At T g un hs sl hl σ' := fun σp p hp hpp => by
      obtain ⟨x0, x1, x2, x4, r, x3, x3'⟩ := x_write hp hwW
      have x5 := x_write5 hp hwW
      obtain ⟨P, hP⟩ : ∃ P : Nat → Bool, P = fun c' => decide (gA g c' (lf g c i) = 1) := ⟨_, rfl⟩
      have x4' : M_X8_write σp (nI (lf g c i)) 4 = some (mkN P (tN T)) := by rw [hP]; exact x4
      have b4 : ((mkN P (tN T) >>> (nI c &&& 31)) &&& (1 : Int32)) = 1 := (mk_bit (p := P) n5.2.1 hc).trans (if_pos (by rw [hP]; exact decide_eq_true hAw))
      have b5' := mk_bit (p := fun c' => knN g (lf g c i) (gK g c')) n5.2.1 hc
      have hkn : knN g (lf g c i) (gK g c) = true ↔ i < gK g c := by
        rw [knN_iff]
        constructor
        · rintro ⟨j, j1, j2⟩
          have := L.known j j1
          have := L.inj j i (by omega) hi (this.trans j2)
          omega
        · intro z
          exact ⟨i, z, (L.known i z).symm⟩
      -- from 1868 on
      have j1868 : ∃ σ', M_L_law_J1868 q σp (nI (tN T)) (nI (tC T)) v8 (nI c) (nI (ln g c)) (nI (gK g c)) (nI i) (nI (lf g c i)) = some (.inl (1, nI (i + 1), σ')) ∧ At T g un hs sl hl σ' := by
        obtain ⟨σ2, e2, h2⟩ := x_copy hp (c := c) (k := 0) (by omega) (by decide)
        have c0 : copyV T g c 0 = nI (clkN g c (gW g)) := by
          unfold copyV
          rw [if_pos hc, if_pos rfl]
        rw [c0] at e2
        have k1 := clkN_ge hAw (gW g) hwW
        have k2 := clkN_le (c := c) hI (gW g) (Nat.le_refl _)
        have k3 := vecN_ge hAw (gW g) hwW
        have k4 := vecN_le (c := c) (o := gN g (lf g c i)) hI (gW g) (Nat.le_refl _)
        obtain ⟨_, y1, y2, _⟩ := x_write h2 hwW
        refine ⟨σ2, ?_, h2⟩
        unfold M_L_law_J1868 M_L_law_J1913
        rw [show M_X8_write σp (nI (lf g c i)) 2 = _ from x2, bnd1_some, show M_X8_copy σp (nI c) 0 = _ from e2, bnd2_some, if_neg (fun z => by have := (nI_ltI (by omega) (by omega)).mp z; omega), show M_X8_write σ2 (nI (lf g c i)) 2 = _ from y2, bnd1_some, show M_X8_write σ2 (nI (lf g c i)) 1 = _ from y1, bnd1_some, x_vector h2 hc w2, bnd1_some, if_neg (fun z => by have := (nI_ltI (by omega) (by omega)).mp z; omega)]
        simp only [lt_eq, nI_1]
      have j1810 : ∃ σ', M_L_law_J1810 q σp (nI (tN T)) (nI (tC T)) v8 (nI c) (nI (ln g c)) (nI (gK g c)) (nI i) (nI (lf g c i)) p = some (.inl (1, nI (i + 1), σ')) ∧ At T g un hs sl hl σ' := by
        unfold M_L_law_J1810
        by_cases hk1 : i ≤ gK g c
        · rw [if_pos ((nI_leI (by omega) (by omega)).mpr hk1)]
          exact j1868
        · rw [if_neg (fun z => hk1 ((nI_leI (by omega) (by omega)).mp z)), hpp (by omega)]
          have hpW := L.lt (i - 1) (by omega)
          obtain ⟨_, z1, z2, _⟩ := x_write hp hpW
          obtain ⟨v1, v2, v3, v4, v5⟩ := hI.2.2.2.2.2.2.2.2.2.1 _ hpW
          have hlt : gS g (lf g c (i - 1)) < gS g (lf g c i) ∨ (gS g (lf g c i) = gS g (lf g c (i - 1)) ∧ gN g (lf g c (i - 1)) < gN g (lf g c i)) := L.srt (i - 1) i (by omega) (by omega) hi
          rw [show M_X8_write σp (nI (lf g c (i - 1))) 2 = _ from z2, bnd1_some, show M_X8_write σp (nI (lf g c i)) 2 = _ from x2, bnd1_some, bnd1_some, bnd1_some]
          by_cases hs1 : gS g (lf g c (i - 1)) < gS g (lf g c i)
          · rw [if_pos ((nI_ltI (by omega) (by omega)).mpr hs1)]
            exact j1868
          · obtain ⟨s1, s2⟩ := hlt.resolve_left hs1
            rw [if_neg (fun z => hs1 ((nI_ltI (by omega) (by omega)).mp z)), s1, if_neg (fun z => z rfl), show M_X8_write σp (nI (lf g c (i - 1))) 1 = _ from z1, bnd1_some, show M_X8_write σp (nI (lf g c i)) 1 = _ from x1, bnd1_some, if_neg (fun z => by have := (nI_leI (by omega) (by omega)).mp z; omega)]
            exact j1868
      unfold M_L_law_J1741
      rw [if_neg n10, x4', bnd1_some, b4, if_neg (fun z => z rfl), show M_X8_write σp (nI (lf g c i)) 5 = _ from x5, bnd1_some, b5']
      by_cases hki : i < gK g c
      · rw [if_neg (fun z => by have := (nI_leI (by omega) (by omega)).mp z; omega), if_pos (hkn.mpr hki)]
        unfold M_L_law_J1788
        have hr : r = nI i := by
          have e := L.known i hki
          rcases x3' with ⟨j, j1, j2, rfl⟩ | ⟨z, _⟩
          · have := hI.2.2.2.2.2.2.2.2.1 i j (by omega) j1 (e.symm.trans j2.symm)
            rw [this]
          · exact absurd e.symm (z i (by omega))
        rw [if_neg (fun z => z rfl), if_neg (fun z => by have := (nI_leI (by omega) (by omega)).mp z; omega), show M_X8_write σp (nI (lf g c i)) 3 = _ from x3, bnd1_some, hr, if_neg (fun z => z rfl)]
        exact j1810
      · rw [if_pos ((nI_leI (by omega) (by omega)).mpr (by omega)), if_neg (fun z => hki (hkn.mp z))]
        unfold M_L_law_J1788
        rw [if_neg (fun z => z rfl), if_pos ((nI_leI (by omega) (by omega)).mpr (by omega))]
        exact j1810
    have body : ∃ σ', M_L_law_L1705 q (nI (tN T)) (nI (tC T)) v8 (nI c) (nI (ln g c)) (nI (gK g c)) 1 (nI i) σ = some (.inl (1, nI (i + 1), σ')) ∧ At T g un hs sl hl σ' := by
      unfold M_L_law_L1705
      rw [if_neg (fun z => by have := (nI_leI (by omega) (by omega)).mp z; omega), e1, bnd2_some]
      by_cases hi0 : i = 0
      · rw [if_neg (fun z => z (by rw [hi0]; rfl))]
        exact fin σ1 (-1) h1 (fun z => absurd hi0 z)
      · obtain ⟨σ2, e2, h2⟩ := x_log h1 (i := i - 1) hc (by omega)
        rw [if_pos (by omega)] at e2
        rw [if_pos (show nI i ≠ (0 : Int32) from fun z => hi0 ((nI_eq (b := 0) (by omega) (by decide)).mp z)), show nI i - (1 : Int32) = nI (i - 1) from nI_pred1 (by omega), e2, bnd2_some]
        exact fin σ2 _ h2 (fun _ => rfl)
    obtain ⟨σ2, e2, h2⟩ := body
    obtain ⟨σ3, r1, r2⟩ := ih (i + 1) m σ2 (by omega) (by omega) h2
    exact ⟨σ3, (it_s e2).trans r1, r2⟩
theorem s_loop1626 {v8 : Int32} : ∀ (d c fu : Nat) (σ : Wd), c + d = tN T → d < fu → At T g un hs sl hl σ → ∃ σ', iter (fun s : Int32 × Int32 × Wd => M_L_law_L1626 q (nI (tN T)) (nI (tC T)) v8 s.1 s.2.1 s.2.2) fu ((1 : Int32), nI c, σ) = some (1, σ') ∧ At T g un hs sl hl σ' := by
  intro d
  induction d with
  | zero =>
    intro c fu σ hk hf h
    obtain ⟨m, rfl⟩ : ∃ m, fu = m + 1 := ⟨fu - 1, by omega⟩
    obtain rfl : c = tN T := by omega
    have n5 := h.n5
    refine ⟨σ, it_x ?_, h⟩
    show M_L_law_L1626 q (nI (tN T)) (nI (tC T)) v8 1 (nI (tN T)) σ = _
    unfold M_L_law_L1626
    rw [if_pos ((nI_leI (by omega) (by omega)).mpr (Nat.le_refl _))]
  | succ d ih =>
    intro c fu σ hk hf h
    obtain ⟨m, rfl⟩ : ∃ m, fu = m + 1 := ⟨fu - 1, by omega⟩
    have n5 := h.n5
    have hc : c < tN T := by omega
    have lw := h.lnW hc
    have kO := h.inv.2.2.1 c (by omega)
    obtain ⟨σ1, e1, h1⟩ := x_copy h (c := c) (k := 1) (by omega) (by decide)
    obtain ⟨σ2, e2, h2⟩ := x_copy h1 (c := c) (k := 2) (by omega) (by decide)
    have c1 : copyV T g c 1 = nI (ln g c) := by
      unfold copyV
      rw [if_pos hc, if_neg (by decide), if_pos rfl]
    have c2 : copyV T g c 2 = nI (gK g c) := by
      unfold copyV
      rw [if_pos hc, if_neg (by decide), if_neg (by decide), if_pos rfl]
    rw [c1] at e1
    rw [c2] at e2
    obtain ⟨σ3, e3, h3⟩ := x_log h2 (i := ln g c) hc (by omega)
    rw [if_neg (Nat.lt_irrefl _)] at e3
    obtain ⟨σ4, e4, h4⟩ := s_loop1705 (q := q) (v8 := v8) hc (ln g c) 0 FU σ3 (by omega) (FU_big (by omega)) h3
    obtain ⟨σ5, r1, r2⟩ := ih (c + 1) m σ4 (by omega) (by omega) h4
    refine ⟨σ5, (it_s ?_).trans r1, r2⟩
    show M_L_law_L1626 q (nI (tN T)) (nI (tC T)) v8 1 (nI c) σ = _
    unfold M_L_law_L1626 M_L_law_J1700 M_L_law_J1921
    rw [if_neg (fun z => by have := (nI_leI (by omega) (by omega)).mp z; omega), show M_X8_copy σ (nI c) 1 = _ from e1, bnd2_some, show M_X8_copy σ1 (nI c) 2 = _ from e2, bnd2_some, if_neg n10, if_neg (fun z => by have := (nI_ltI (by omega) (by omega)).mp z; omega), x_count4 h2, bnd2_some, if_neg (fun z => by have := (nI_ltI (by omega) (by omega)).mp z; omega), x_count3 h2, bnd2_some, if_neg (fun z => by have := (nI_ltI (by omega) (by omega)).mp z; omega), e3, bnd2_some, if_neg (fun z => z rfl), show ((1 : Int32), (0 : Int32), σ3) = ((1 : Int32), nI 0, σ3) from rfl, e4, bnd1_some]
    simp only [lt_eq, nI_1]
    rfl
theorem s_1578 (h : At T g un hs sl hl σ) {k m : Nat} (hS : SI m g) : ∃ σ', M_L_law_J1578 q σ 1 (nI (tN T)) (nI (tC T)) (nI k) = some (.inl (1, nI (k + 1), σ')) ∧ At T g un hs sl hl σ' := by
  have n5 := h.n5
  obtain ⟨σ1, e1, h1⟩ := x_copy h (c := gP g) (k := 2) (by omega) (by decide)
  have c2 : copyV T g (gP g) 2 = nI (gO g) := by
    unfold copyV
    rw [if_pos n5.2.2.2.2.2.2, if_neg (by decide), if_neg (by decide), if_pos rfl, h.inv.2.2.2.1]
  rw [c2] at e1
  obtain ⟨σ2, e2, h2⟩ := s_loop1626 (q := q) (v8 := nI k) (tN T) 0 FU σ1 (by omega) (FU_big (by omega)) h1
  refine ⟨σ2, ?_, h2⟩
  unfold M_L_law_J1578 M_L_law_J1621 M_L_law_J1927
  rw [if_neg n10, x_count12 h, bnd2_some, x_count13 h, bnd2_some, hS.bal, if_neg (fun z => z rfl), x_count5 h, bnd2_some, show M_X8_copy σ (nI (gP g)) 2 = _ from e1, bnd2_some, x_count4 h1, bnd2_some, if_neg (fun z => z rfl), show ((1 : Int32), (0 : Int32), σ1) = ((1 : Int32), nI 0, σ1) from rfl, e2, bnd1_some]
  simp only [lt_eq, nI_1]
  rfl
/-- what a step leads to -/
def Post (T : Td) (g : Gs) (un k : Nat) (hs sl : Nat → Gs) (hl : Nat → Nat) (v23 : Int32) (σ' : Wd) : Prop := (v23 = 0 ∧ At T g un hs sl hl σ') ∨ (v23 = 1 ∧ ∃ g', SI (k + 1) g' ∧ At T g' (un + 1) (pushH hs un g) sl hl σ')
/-- what a step's body may end in -/
def Ends (T : Td) (un k : Nat) (sl : Nat → Gs) (hl : Nat → Nat) (n : Nat) (r : Option ((Int32 × Int32 × Wd) ⊕ (Int32 × Wd))) : Prop := ∃ un' g' hs' σ', r = some (.inl (1, nI (n + 1), σ')) ∧ un' ≤ un + 1 ∧ SI (k + 1) g' ∧ At T g' un' hs' sl hl σ'
theorem s_1410 (hU : un < 40) {k n a b : Nat} {v23 : Int32} (hn : n < 44) (ha : a ≤ tN T) (hb : b ≤ tN T) (hS : SI k g) (hP : Post T g un k hs sl hl v23 σ) : Ends T un k sl hl n (M_L_law_J1410 q σ 1 (nI (tN T)) (nI (tC T)) (nI n) (nI a) (nI b) (nI (gW g)) (nI (gO g)) (smN g 0 (tN T)) (smN g 2 (tN T)) (rfN g 4) (nI un) (copyV T g a 0) (copyV T g b 1) (nI (gQ g 0)) (nI (gP g)) v23) := by
  rcases hP with ⟨rfl, h⟩ | ⟨rfl, g', hS', h⟩
  · obtain ⟨σ1, e1, h1⟩ := s_1578 (q := q) (k := n) h hS
    refine ⟨un, g, hs, σ1, ?_, by omega, hS.up (by omega), h1⟩
    unfold M_L_law_J1410 M_L_law_J1433 M_L_law_J1442
    rw [if_neg n10, x_count9 h, bnd2_some, if_pos rfl, if_neg (fun z => z (by simp)), if_pos rfl]
    exact e1
  · have n5 := h.n5
    have e9 := x_count9 h
    unfold M_L_law_J1410 M_L_law_J1433 M_L_law_J1442
    rw [if_neg n10, e9, bnd2_some, if_neg n10, if_neg (fun z => z (nI_1 un).symm), if_neg n10, chk_pos ((ib_nI (by omega)).mpr (by omega))]
    by_cases hb0 : (((lX q (ix (nI n))) >>> ((12 : Int32) &&& 31)) &&& (3 : Int32)) ≠ 0
    · rw [if_pos hb0]
      obtain ⟨σ1, e1, h1⟩ := s_1578 (q := q) (k := n) h hS'
      exact ⟨un + 1, g', _, σ1, e1, Nat.le_refl _, hS', h1⟩
    · obtain ⟨σ1, e1, hu⟩ := x_undo h
      rw [show pushH hs un g un = g from if_neg (Nat.lt_irrefl _)] at hu
      obtain ⟨σ2, e2, h2⟩ := x_copy hu (c := a) (k := 0) (by omega) (by decide)
      obtain ⟨σ3, e3, h3⟩ := x_copy h2 (c := b) (k := 1) (by omega) (by decide)
      obtain ⟨e4, _⟩ := x_sess h3 (s := 0) (by decide)
      obtain ⟨σ4, e5, h4⟩ := s_1578 (q := q) (k := n) h3 hS
      refine ⟨un, g, _, σ4, ?_, by omega, hS.up (by omega), h4⟩
      unfold M_L_law_J1576
      rw [if_neg hb0, if_neg n10, e1, bnd2_some, if_neg n10, x_count3 hu, bnd2_some, if_neg (fun z => z rfl), x_count4 hu, bnd2_some, if_neg (fun z => z rfl), x_count7 hu, bnd2_some, if_neg (fun z => z rfl), x_count12 hu, bnd2_some, if_neg (fun z => z rfl), x_count16 hu, bnd2_some, if_neg (fun z => z rfl), show M_X8_copy σ1 (nI a) 0 = _ from e2, bnd2_some, if_neg (fun z => z rfl), show M_X8_copy σ2 (nI b) 1 = _ from e3, bnd2_some, if_neg (fun z => z rfl), show M_X8_session σ3 0 0 = _ from e4, bnd1_some, if_neg (fun z => z rfl), x_count5 h3, bnd2_some, if_neg (fun z => z rfl)]
      exact e5
end ST
