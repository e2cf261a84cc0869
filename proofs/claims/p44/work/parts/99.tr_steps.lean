/-! the law's steps: meetings, chance, asking -/
section ST3
variable {T : Td} {g : Gs} {un : Nat} {hs sl : Nat → Gs} {hl : Nat → Nat} {σ : Wd} {q : Lq}
theorem MtX_f {g g' : Gs} {a b s : Nat} (h : MtX g a b s g') : (∀ x, iC g' 0 x = if x = b then iC g 0 x + (nI (lgn g (hsP g b) (gK g b)) - nI s) else iC g 0 x) ∧ (∀ x, iC g' 2 x = iC (opG (opG g b) a) 2 x) ∧ (∀ x, iC g' 3 x = iC (shG (shG g a) b) 3 x) ∧ gh g' 0 = b ∧ gh g' 1 = a ∧ 2 ≤ gH g' := by
  obtain ⟨g5, y, h1, h2, h3, rfl⟩ := h
  have e0 : ∀ z, g5.2 1 z = g.2 1 z := fun z => by rw [h2]; rfl
  have e3 : ∀ z, g5.2 4 z = g.2 4 z := fun z => by rw [h2]; rfl
  refine ⟨fun x => ?_, fun x => ?_, fun x => ?_, rfl, rfl, ?_⟩
  · show (if 1 = 1 ∧ x = b then g5.2 1 b + (nI (lgn g (hsP g b) (gK g b)) - nI s) else g5.2 1 x) = _
    rw [e0, e0]
    by_cases q : x = b
    · subst q; rw [if_pos ⟨rfl, rfl⟩, if_pos rfl]
    · rw [if_neg (fun z => q z.2), if_neg q]
  · show g5.2 3 x = _
    rw [h2]
  · show (if 4 = 4 ∧ x = b then (if 4 = 4 ∧ b = a then g5.2 4 a + 1 else g5.2 4 b) + 1 else if 4 = 4 ∧ x = a then g5.2 4 a + 1 else g5.2 4 x) = _
    rw [e3, e3, e3]
    rfl
  · show 2 ≤ min 8 (min 8 (g5.1 4 0 0 + 1) + 1)
    omega
theorem op_f {g : Gs} {c : Nat} : ∀ x, iC (opG g c) 2 x = if x = c then iC g 2 x + 1 else iC g 2 x := fun x => by
  show (if (3 = 3 ∧ x = c) then iC g 2 c + 1 else g.2 3 x) = _
  by_cases e : x = c
  · subst e; rw [if_pos ⟨rfl, rfl⟩, if_pos rfl]
  · rw [if_neg (fun z => e z.2), if_neg e]
theorem sh_f {g : Gs} {c : Nat} : ∀ x, iC (shG g c) 3 x = if x = c then iC g 3 x + 1 else iC g 3 x := fun x => by
  show (if (4 = 4 ∧ x = c) then iC g 3 c + 1 else g.2 4 x) = _
  by_cases e : x = c
  · subst e; rw [if_pos ⟨rfl, rfl⟩, if_pos rfl]
  · rw [if_neg (fun z => e z.2), if_neg e]
theorem two_b {g g' : Gs} {a b : Nat} (h2 : ∀ x, iC g' 2 x = iC (opG (opG g b) a) 2 x) (h3 : ∀ x, iC g' 3 x = iC (shG (shG g a) b) 3 x) : ∃ u : Nat → Int32, ∀ x, iC g' 2 x = iC g 2 x + u x ∧ iC g' 3 x = iC g 3 x + u x := by
  refine ⟨fun x => (if x = a then 1 else 0) + (if x = b then 1 else 0), fun x => ?_⟩
  have A : ∀ (P Q : Prop) [Decidable P] [Decidable Q] (y : Int32), (if P then (if Q then y + 1 else y) + 1 else (if Q then y + 1 else y)) = y + ((if P then 1 else 0) + (if Q then 1 else 0)) := by
    intro P Q _ _ y
    by_cases p : P <;> by_cases q : Q <;> simp [p, q, Int32.add_assoc]
  rw [h2, h3, op_f, op_f, sh_f, sh_f, A, A, Int32.add_comm (if x = b then 1 else 0)]
  exact ⟨rfl, rfl⟩
theorem MtX_S {g0 g g' : Gs} {k a b s : Nat} (hS : SI k g0) (hWW : gW g' ≤ k + 1) (hCC : gC g' ≤ k + 1) (e2 : g.2 = g0.2) (h : MtX g a b s g') (hs : s ≤ lgn g (hsP g b) (gK g b)) (hL : lgn g (hsP g b) (gK g b) ≤ 60) : SI (k + 1) g' := by
  obtain ⟨f0, f2, f3, _⟩ := MtX_f h
  have e0 : ∀ j x, iC g j x = iC g0 j x := fun j x => by show g.2 (1 + j) x = g0.2 (1 + j) x; rw [e2]
  obtain ⟨u, hu⟩ := two_b f2 f3
  refine hS.of hWW hCC ⟨u, fun x => by rw [← e0, ← e0]; exact hu x⟩ (fun x => ?_)
  rw [f0, ← e0]
  by_cases q : x = b
  · rw [if_pos q, nI_nat hs]
    exact ⟨_, by omega, rfl⟩
  · rw [if_neg q]
    exact ⟨0, by omega, (add_z _).symm⟩
/-- rolled back in all: a number that only grows -/
theorem SI.sum {k : Nat} {g : Gs} (h : SI k g) : ∀ n, ∃ R, smN g 0 n = nI R ∧ R ≤ n * (120 * k) := by
  intro n
  induction n with
  | zero => exact ⟨0, rfl, by omega⟩
  | succ n ih =>
    obtain ⟨R, r1, r2⟩ := ih
    obtain ⟨r, d1, d2⟩ := h.2.2.2 n
    refine ⟨R + r, ?_, ?_⟩
    · show smN g 0 n + iC g 0 n = _
      rw [r1, d1, nI_add]
    · rw [Nat.succ_mul]; omega
theorem s_chance (h : At T g un hs sl hl σ) (hU : un < 40) {k n a b m : Nat} (hm : m < 2) (hk : k ≤ 40) (hn : n < 44) (ha : a ≤ tN T) (hb : b ≤ tN T) (hS : SI k g) : Ends T un k sl hl n (if nI m ≤ (0 : Int32) then (M_L_law_J1376 q σ (nI (tN T)) (nI (tC T)) (nI n) (nI a) (nI b) (nI (gW g)) (nI (gO g)) (smN g 0 (tN T)) (smN g 2 (tN T)) (rfN g 4) (nI un) (copyV T g a 0) (copyV T g b 1) (nI (gQ g 0)) (nI (gP g)) (nI (gC g)) (nI m) (0 : Int32)) else (M_L_law_J1376 q σ (nI (tN T)) (nI (tC T)) (nI n) (nI a) (nI b) (nI (gW g)) (nI (gO g)) (smN g 0 (tN T)) (smN g 2 (tN T)) (rfN g 4) (nI un) (copyV T g a 0) (copyV T g b 1) (nI (gQ g 0)) (nI (gP g)) (nI (gC g)) (nI m) (1 : Int32))) := by
  have n5 := h.n5
  obtain ⟨R, R1, R2⟩ := hS.sum (tN T)
  have hRb : R ≤ 24000 := by
    have : tN T * (120 * k) ≤ 5 * (120 * 40) := Nat.mul_le_mul n5.2.1 (Nat.mul_le_mul (Nat.le_refl _) hk)
    omega
  rcases x_chance h hU (n := m) (by omega) with ⟨rfl, e⟩ | ⟨hm0, g', σ', hc, e, h'⟩
  · rw [if_pos (show nI 0 ≤ 0 by decide)]
    unfold M_L_law_J1376 M_L_law_J1408
    rw [e, bnd2_some, if_neg (fun z => z (add_z _).symm), x_count7 h, bnd2_some, R1, if_neg (fun z => by have := (nI_ltI (by omega) (by omega)).mp z; omega), ← R1]
    exact s_1410 hU hn ha hb hS (Or.inl ⟨rfl, h⟩)
  · obtain rfl : m = 1 := by omega
    obtain ⟨gm, hgm, hc⟩ := hc
    rw [show gm = g from hgm] at hc
    have hx : SI (k + 1) g' ∧ ∃ e, e ≤ 60 ∧ smN g' 0 (tN T) = smN g 0 (tN T) + nI e := by
      obtain ⟨c1, c2, c3⟩ := hc
      have hCk := hS.2.1
      by_cases q : tN T ≤ 1
      · rw [c2 q]
        refine ⟨hS.of (by show gW g ≤ _; have := hS.1; omega) (by rw [show gC (uG g 3 0 0 (gC g + 1)) = gC g + 1 from rfl]; omega) ⟨fun _ => 0, fun x => ⟨(Int32.add_zero _).symm, (Int32.add_zero _).symm⟩⟩ (fun x => ⟨0, by omega, by rw [add_z]; rfl⟩), 0, by omega, ?_⟩
        rw [add_z]
        exact smN_eq (g := g) (g' := uG g 3 0 0 (gC g + 1)) (j := 0) (fun _ => rfl) _
      · obtain ⟨a', b', k1, k2, k3, _, _, ms, s, mx, hs'⟩ := c3 (by omega)
        have hL : lgn (uG g 3 0 0 (gC g + 1)) (hsP (uG g 3 0 0 (gC g + 1)) b') (gK (uG g 3 0 0 (gC g + 1)) b') ≤ 60 := Nat.le_trans (Nat.le_of_eq (lg_cong (g := g) (g' := uG g 3 0 0 (gC g + 1)) (P := hsP g b') (P' := hsP (uG g 3 0 0 (gC g + 1)) b') (k := gK g b') (fun _ => rfl) (fun _ => rfl) (fun _ => rfl) rfl (fun _ _ => rfl)).2) (h.lnW k2).2.2
        refine ⟨MtX_S (g := uG g 3 0 0 (gC g + 1)) hS (by rw [ms.1]; show gW g ≤ _; have := hS.1; omega) (by rw [c1]; omega) rfl mx hs' hL, lgn (uG g 3 0 0 (gC g + 1)) (hsP (uG g 3 0 0 (gC g + 1)) b') (gK (uG g 3 0 0 (gC g + 1)) b') - s, by omega, ?_⟩
        obtain ⟨f0, _⟩ := MtX_f mx
        rw [nI_nat hs'] at f0
        have := smN_up (g := uG g 3 0 0 (gC g + 1)) f0 (tN T)
        rw [if_pos k2] at this
        rw [this]
        rw [smN_eq (g := g) (g' := uG g 3 0 0 (gC g + 1)) (j := 0) (fun _ => rfl)]
    obtain ⟨hSS, e0, e1, e2⟩ := hx
    rw [if_neg (show ¬ nI 1 ≤ 0 by decide)]
    unfold M_L_law_J1376 M_L_law_J1408
    rw [e, bnd2_some, if_neg (fun z => z (nI_1 _).symm), x_count7 h', bnd2_some, e2, R1, nI_add, if_neg (fun z => by have := (nI_ltI (by omega) (by omega)).mp z; omega), ← R1]
    exact s_1410 hU hn ha hb hS (Or.inr ⟨rfl, _, hSS, h'⟩)
/-- a meeting -/
theorem s_meet (h : At T g un hs sl hl σ) (hU : un < 40) {k n a b : Nat} (hn : n < 44) (ha : a ≤ tN T) (hb : b ≤ tN T) (hS : SI k g) : Ends T un k sl hl n (bnd2 (M_X8_would σ (nI a) (nI b)) fun r965 s_965 => bnd1 (M_X8_lacks s_965 (nI a) (nI b)) fun r975 => bnd2 (M_X8_fork s_965 (nI a) (nI b)) fun r985 s_985 => bnd2 (M_X8_meet s_985 (nI a) (nI b)) fun r995 s_995 => if nI (tN T) ≤ nI a then (M_L_law_J1025 q s_995 (nI (tN T)) (nI (tC T)) (nI n) (nI a) (nI b) (nI (gW g)) (nI (gO g)) (smN g 0 (tN T)) (smN g 2 (tN T)) (rfN g 4) (nI un) (copyV T g a 0) (copyV T g b 1) (nI (gQ g 0)) (nI (gP g)) r965 r975 r985 r995) else (if nI (tN T) ≤ nI b then (M_L_law_J1025 q s_995 (nI (tN T)) (nI (tC T)) (nI n) (nI a) (nI b) (nI (gW g)) (nI (gO g)) (smN g 0 (tN T)) (smN g 2 (tN T)) (rfN g 4) (nI un) (copyV T g a 0) (copyV T g b 1) (nI (gQ g 0)) (nI (gP g)) r965 r975 r985 r995) else (if nI a = nI b then (M_L_law_J1025 q s_995 (nI (tN T)) (nI (tC T)) (nI n) (nI a) (nI b) (nI (gW g)) (nI (gO g)) (smN g 0 (tN T)) (smN g 2 (tN T)) (rfN g 4) (nI un) (copyV T g a 0) (copyV T g b 1) (nI (gQ g 0)) (nI (gP g)) r965 r975 r985 r995) else (M_L_law_J1026 q s_995 (nI (tN T)) (nI (tC T)) (nI n) (nI a) (nI b) (nI (gW g)) (nI (gO g)) (smN g 0 (tN T)) (smN g 2 (tN T)) (rfN g 4) (nI un) (copyV T g a 0) (copyV T g b 1) (nI (gQ g 0)) (nI (gP g)) r965 r975 r985 r995 (1 : Int32))))) := by
  have n5 := h.n5
  by_cases hok : a < tN T ∧ b < tN T ∧ a ≠ b
  · obtain ⟨haN, hbN, hab⟩ := hok
    obtain ⟨s, g', σ1, σw, al, ms, mx, em, hA', ew, hw⟩ := x_meet h hU haN hbN hab
    obtain ⟨s', g'', σ2, σw', al', ms', mx', em', hA'', _, _⟩ := x_meet hw hU haN hbN hab
    obtain rfl : s = s' := AlS_u al al'
    have el := x_lacks hw haN hbN
    obtain ⟨r, σf, ar, ef, hf⟩ := x_fork hw haN hbN
    obtain ⟨s'', g3, σ3, _, al3', ms3, mx3, em3, hA3, _, _⟩ := x_meet hf hU haN hbN hab
    obtain rfl : s = s'' := AlS_u al al3'
    have hrs : r ≤ s := merge_len h.inv n5.2.1 haN hbN ar al
    have hsL : s ≤ ln g b := al.1
    have lwb := h.lnW hbN
    have lwa := h.lnW haN
    have hrL : r ≤ ln g b := ar.2.1
    obtain ⟨m1, m2, m3, m4, m5, m6⟩ := ms3
    obtain ⟨f0, f2, f3, fh0, fh1, fH⟩ := MtX_f mx3
    have hSS : SI (k + 1) g3 := MtX_S (g := g) hS (by rw [m1]; have := hS.1; omega) (by rw [m3]; have := hS.2.1; omega) rfl mx3 hsL lwb.2.2
    have q0 : smN g3 0 (tN T) = smN g 0 (tN T) + (nI (ln g b) - nI s) := by
      have := smN_up (g := g) (g' := g3) f0 (tN T)
      rw [if_pos hbN] at this
      exact this
    have q2 : smN g3 2 (tN T) = smN g 2 (tN T) + 2 := by
      have e1 := smN_up (g := opG g b) (g' := g3) (j := 2) (c := a) (d := 1) (fun x => (f2 x).trans (op_f x)) (tN T)
      have e2 := smN_up (g := g) (g' := opG g b) (j := 2) (c := b) (d := 1) op_f (tN T)
      rw [if_pos haN] at e1
      rw [if_pos hbN] at e2
      rw [e1, e2, Int32.add_assoc]
      rfl
    have hln3 : ln g3 b = ln g b + lkN g a b (gW g) := by
      have e1 : ln g3 b = cnN (hsP g3 b) (gW g3) := lgn_cn hA3.inv (by omega)
      have e2 : ln g b = cnN (hsP g b) (gW g) := lgn_cn h.inv (by omega)
      rw [e1, e2, m1, ← cn_un]
      refine cnN_eq _ (fun w _ => ?_)
      show decide (gA g3 b w = 1) = (decide (gA g a w = 1) || decide (gA g b w = 1))
      rw [m4]
      by_cases z : gA g a w = 1
      · rw [if_pos ⟨rfl, z⟩]; simp [z]
      · rw [if_neg (fun y => z y.2)]; simp [z]
    have hlk3 : lkN g3 a b (gW g3) = 0 := (lkN_0 _).mpr (fun w _ z => by
      rw [m4] at z ⊢
      rw [if_neg (fun y => hab y.1)] at z
      rw [if_pos ⟨rfl, z⟩])
    have hK3 : gK g3 a ≤ gK g3 b := by
      have i1 := hA3.inv.2.2.1 a (by omega)
      by_cases z : b = gP g ∧ lkN g a b (gW g) ≠ 0
      · rw [if_pos z] at m6
        rw [← m6.1]; exact i1
      · rw [if_neg z] at m6
        rw [m6.2, m5 a hab]
        exact Nat.le_max_right _ _
    obtain ⟨σ4, e4, h4⟩ := x_copy hA3 (c := b) (k := 1) (by omega) (by decide)
    have c4 : copyV T g3 b 1 = nI (ln g b + lkN g a b (gW g)) := by
      unfold copyV
      rw [if_pos hbN, if_neg (by decide), if_pos rfl, hln3]
    rw [c4] at e4
    have e5 := x_lacks h4 haN hbN
    rw [hlk3] at e5
    obtain ⟨σ6, e6, h6⟩ := x_copy h4 (c := b) (k := 2) (by omega) (by decide)
    obtain ⟨σ7, e7, h7⟩ := x_copy h6 (c := a) (k := 2) (by omega) (by decide)
    have c6 : ∀ c, c < tN T → copyV T g3 c 2 = nI (gK g3 c) := fun c hc => by
      unfold copyV
      rw [if_pos hc, if_neg (by decide), if_neg (by decide), if_pos rfl]
    rw [c6 b hbN] at e6
    rw [c6 a haN] at e7
    have kb := hA3.inv.2.2.1 b (by omega)
    have n53 := hA3.n5
    have e8 := x_shut h7 (i := 0) (by decide)
    have e9 := x_shut h7 (i := 1) (by decide)
    rw [if_pos (show 0 < gH g3 by omega), fh0] at e8
    rw [if_pos (show 1 < gH g3 by omega), fh1] at e9
    have cb : copyV T g b 1 = nI (ln g b) := by
      unfold copyV
      rw [if_pos hbN, if_neg (by decide), if_pos rfl]
    rw [ew, bnd2_some, el, bnd1_some, ef, bnd2_some, em3, bnd2_some, if_neg (fun z => by have := (nI_leI (by omega) (by omega)).mp z; omega), if_neg (fun z => by have := (nI_leI (by omega) (by omega)).mp z; omega), if_neg (fun z => hab ((nI_eq (by omega) (by omega)).mp z))]
    unfold M_L_law_J1026 M_L_law_J1041
    have e7' : M_X8_copy σ6 (nI a) 2 = some (nI (gK g3 a), σ7) := e7
    have e6' : M_X8_copy σ4 (nI b) 2 = some (nI (gK g3 b), σ6) := e6
    have e8' : M_X8_shut σ7 0 = some (nI b) := e8
    have e9' : M_X8_shut σ7 1 = some (nI a) := e9
    have e4' : M_X8_copy σ3 (nI b) 1 = some (nI (ln g b + lkN g a b (gW g)), σ4) := e4
    have e5' : M_X8_lacks σ4 (nI a) (nI b) = some (nI 0) := e5
    rw [if_neg n10, if_neg (fun z => z rfl), if_neg n10, x_count7 hA3, bnd2_some, q0, if_neg (fun z => z rfl), e4', bnd2_some, cb, nI_add, if_neg (fun z => z rfl), e5', bnd1_some, if_neg (show ¬ nI 0 ≠ 0 by decide), e6', bnd2_some, e7', bnd2_some, if_neg (fun z => by have := (nI_ltI (by omega) (by omega)).mp z; omega), x_count12 h7, bnd2_some, q2, if_neg (fun z => z rfl), e8', bnd1_some, if_neg (fun z => z rfl), e9', bnd1_some, if_neg (fun z => z rfl), nI_nat hsL, if_neg (fun z => by have := (nI_ltI (by omega) (by omega)).mp z; omega), nI_nat hrL, if_pos ((nI_leI (by omega) (by omega)).mpr (by omega)), ← cb]
    exact s_1410 hU hn ha hb hS (Or.inr ⟨rfl, _, hSS, h7⟩)
  · obtain ⟨em, ew⟩ := x_meetNo h (a := a) (b := b) (by omega) (by omega) hok
    have el : ∃ v, M_X8_lacks σ (nI a) (nI b) = some v ∧ ∃ r σf, M_X8_fork σ (nI a) (nI b) = some (r, σf) ∧ At T g un hs sl hl σf := by
      by_cases h1 : a < tN T ∧ b < tN T
      · obtain ⟨r, σf, _, ef, hf⟩ := x_fork h h1.1 h1.2
        exact ⟨_, x_lacks h h1.1 h1.2, _, _, ef, hf⟩
      · have e0 : M_X8_areCopies σ (nI a) (nI b) = some 0 := by
          by_cases h2 : a < tN T
          · exact are_g (x_isCopy h h2) (x_noCopy h (by omega) (by omega))
          · exact are_f (x_noCopy h (by omega) (by omega))
        refine ⟨-1, ?_, -1, σ, ?_, h⟩
        · unfold M_X8_lacks
          rw [e0, bnd1_some, if_pos rfl]
        · unfold M_X8_fork
          rw [e0, bnd1_some, if_neg z00]
    obtain ⟨v, e1, r, σf, e2, hf⟩ := el
    obtain ⟨em', _⟩ := x_meetNo hf (a := a) (b := b) (by omega) (by omega) hok
    have fin : ∀ t, t = M_L_law_J1025 q σf (nI (tN T)) (nI (tC T)) (nI n) (nI a) (nI b) (nI (gW g)) (nI (gO g)) (smN g 0 (tN T)) (smN g 2 (tN T)) (rfN g 4) (nI un) (copyV T g a 0) (copyV T g b 1) (nI (gQ g 0)) (nI (gP g)) (-1) v r (-1) → Ends T un k sl hl n t := fun t ht => by
      rw [ht]
      unfold M_L_law_J1025 M_L_law_J1026 M_L_law_J1041
      rw [if_pos rfl, if_neg (fun z => z rfl), if_pos rfl]
      exact s_1410 hU hn ha hb hS (Or.inl ⟨rfl, hf⟩)
    rw [ew, bnd2_some, e1, bnd1_some, e2, bnd2_some, em', bnd2_some]
    by_cases c1 : tN T ≤ a
    · rw [if_pos ((nI_leI (by omega) (by omega)).mpr c1)]
      exact fin _ rfl
    · rw [if_neg (fun z => c1 ((nI_leI (by omega) (by omega)).mp z))]
      by_cases c2 : tN T ≤ b
      · rw [if_pos ((nI_leI (by omega) (by omega)).mpr c2)]
        exact fin _ rfl
      · rw [if_neg (fun z => c2 ((nI_leI (by omega) (by omega)).mp z)), if_pos (by
          have : a = b := Decidable.byContradiction (fun z => hok ⟨by omega, by omega, z⟩)
          rw [this])]
        exact fin _ rfl
end ST3
