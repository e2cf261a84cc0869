/-! the law's steps: asking -/
theorem ses8 {x : Int32} : ∃ j, j < 8 ∧ ((x >>> ((4 : Int32) &&& 31)) &&& (7 : Int32)) - (2 : Int32) = nI j - 2 := by
  obtain ⟨j, hj, e⟩ := pk_andE (x >>> ((4 : Int32) &&& 31)) (m := 7) 3 rfl
  exact ⟨j, by omega, by rw [show ((x >>> ((4 : Int32) &&& 31)) &&& (7 : Int32)) = nI j from e]⟩
/-- which session: none such, nobody, or one of four -/
theorem ses_c : ∀ j : Fin 8, (nI j.val - 2 = (-2 : Int32)) ∨ (nI j.val - 2 = (-1 : Int32)) ∨ (∃ s : Fin 4, nI j.val - 2 = nI s.val) ∨ (nI 4 ≤ nI j.val - 2) := by decide +kernel
section ST4
variable {T : Td} {g : Gs} {un : Nat} {hs sl : Nat → Gs} {hl : Nat → Nat} {σ : Wd} {q : Lq}
theorem may_no {σ : Wd} {v b : Int32} (h : M_X8_isSession v = some 0) : M_X8_may σ v b = some (-1) := by
  unfold M_X8_may
  rw [h, bnd1_some, if_neg z00]
theorem x_cellAny (h : At T g un hs sl hl σ) {c k : Nat} (hc : c < 2 ^ 20) (hk : k < 2 ^ 20) : ∃ r σ', M_X8_cell σ (nI c) (nI k) 0 = some (r, σ') ∧ At T g un hs sl hl σ' := by
  by_cases h1 : c < tN T
  · by_cases h2 : k < tC T
    · obtain ⟨⟨σ', e, h'⟩, _⟩ := x_cell h h1 h2
      exact ⟨_, σ', e, h'⟩
    · refine ⟨0, σ, ?_, h⟩
      unfold M_X8_cell
      rw [x_isCopy h h1, bnd1_some, if_neg n10, x_noCell h (by omega) (by omega), bnd1_some, if_neg z00]
  · refine ⟨0, σ, ?_, h⟩
    unfold M_X8_cell
    rw [x_noCopy h (by omega) (by omega), bnd1_some, if_pos rfl]
theorem askS_b {g' : Gs} {s c : Nat} {v : Int32} {k : Nat} (hS : SI k g) (h : AskS T g s c v g') (hs4 : s < 4) : SI (k + 1) g' ∧ (∀ n, rfN g' n = rfN g n) := by
  obtain ⟨a1, a2, a3, a4, a5, a6⟩ := h
  refine ⟨hS.of (by rw [show gW g' = gW g from a1 0 0 0 (by decide) (by decide) (by decide)]; have := hS.1; omega) (by rw [show gC g' = gC g from a1 3 0 0 (by decide) (by decide) (by decide)]; have := hS.2.1; omega) (one_b a5 a6) (fun x => ⟨0, by omega, by rw [add_z]; exact a3 1 x (by decide) (by decide) (fun z => by omega)⟩), fun n => rfN_eq (fun x => a3 5 x (by decide) (by decide) (fun z => by omega)) n⟩
theorem s_ask (h : At T g un hs sl hl σ) (hU : un < 40) {k n a b f j : Nat} (hj : j < 8) (hf : f ≤ tC T) (hn : n < 44) (ha : a ≤ tN T) (hb : b ≤ tN T) (hS : SI k g) : Ends T un k sl hl n (bnd1 (M_X8_may σ (nI j - 2) (0 : Int32)) fun r764 => if nI j - 2 < 0 then (M_L_law_J798 q σ (nI (tN T)) (nI (tC T)) (nI n) (nI a) (nI b) (nI j - 2) (nI (gW g)) (nI (gO g)) (smN g 0 (tN T)) (smN g 2 (tN T)) (rfN g 4) (nI un) (copyV T g a 0) (copyV T g b 1) (nI (gQ g 0)) (nI (gP g)) (nI f) r764) else (if (4 : Int32) ≤ nI j - 2 then (M_L_law_J798 q σ (nI (tN T)) (nI (tC T)) (nI n) (nI a) (nI b) (nI j - 2) (nI (gW g)) (nI (gO g)) (smN g 0 (tN T)) (smN g 2 (tN T)) (rfN g 4) (nI un) (copyV T g a 0) (copyV T g b 1) (nI (gQ g 0)) (nI (gP g)) (nI f) r764) else (if nI (tN T) ≤ nI a then (M_L_law_J798 q σ (nI (tN T)) (nI (tC T)) (nI n) (nI a) (nI b) (nI j - 2) (nI (gW g)) (nI (gO g)) (smN g 0 (tN T)) (smN g 2 (tN T)) (rfN g 4) (nI un) (copyV T g a 0) (copyV T g b 1) (nI (gQ g 0)) (nI (gP g)) (nI f) r764) else (if nI (tC T) ≤ nI f then (M_L_law_J798 q σ (nI (tN T)) (nI (tC T)) (nI n) (nI a) (nI b) (nI j - 2) (nI (gW g)) (nI (gO g)) (smN g 0 (tN T)) (smN g 2 (tN T)) (rfN g 4) (nI un) (copyV T g a 0) (copyV T g b 1) (nI (gQ g 0)) (nI (gP g)) (nI f) r764) else (M_L_law_J799 q σ (nI (tN T)) (nI (tC T)) (nI n) (nI a) (nI b) (nI j - 2) (nI (gW g)) (nI (gO g)) (smN g 0 (tN T)) (smN g 2 (tN T)) (rfN g 4) (nI un) (copyV T g a 0) (copyV T g b 1) (nI (gQ g 0)) (nI (gP g)) (nI f) r764 (1 : Int32)))))) := by
  have n5 := h.n5
  -- nothing asked
  have no : ∀ r764, (M_X8_isSession (nI j - 2) = some 0 ∨ ∃ s, s < 4 ∧ nI j - 2 = nI s) → (M_X8_isSession (nI j - 2) = some 0 ∨ tN T ≤ a ∨ tC T ≤ f) → ∀ t, t = M_L_law_J798 q σ (nI (tN T)) (nI (tC T)) (nI n) (nI a) (nI b) (nI j - 2) (nI (gW g)) (nI (gO g)) (smN g 0 (tN T)) (smN g 2 (tN T)) (rfN g 4) (nI un) (copyV T g a 0) (copyV T g b 1) (nI (gQ g 0)) (nI (gP g)) (nI f) r764 → Ends T un k sl hl n t := fun r764 hv hbad t ht => by
    rw [ht]
    obtain ⟨r, σ1, e1, h1⟩ := x_cellAny h (c := a) (k := f) (by omega) (by omega)
    have e2 := x_askBad h1 (v := nI j - 2) (c := a) (k := f) (by omega) (by omega) hv hbad
    unfold M_L_law_J798 M_L_law_J799
    rw [e1, bnd2_some, e2, bnd2_some, if_pos rfl]
    unfold M_L_law_J842 M_L_law_J862 M_L_law_J896 M_L_law_J901
    rw [if_neg (fun z => z rfl), if_pos (show (-1 : Int32) ≠ 1 by decide), if_pos rfl]
    have el : iter (fun s : Int32 × Int32 => M_L_law_L906 q σ1 (nI (tN T)) (nI (tC T)) (nI n) (nI a) (nI b) (nI j - 2) (nI (gW g)) (nI (gO g)) (smN g 0 (tN T)) (smN g 2 (tN T)) (rfN g 4) (nI un) (copyV T g a 0) (copyV T g b 1) (nI (gQ g 0)) (nI (gP g)) (0 : Int32) (-1 : Int32) s.1 s.2) FU ((1 : Int32), (0 : Int32)) = some 1 := by
      unfold FU
      refine it_x ?_
      show M_L_law_L906 q σ1 (nI (tN T)) (nI (tC T)) (nI n) (nI a) (nI b) (nI j - 2) (nI (gW g)) (nI (gO g)) (smN g 0 (tN T)) (smN g 2 (tN T)) (rfN g 4) (nI un) (copyV T g a 0) (copyV T g b 1) (nI (gQ g 0)) (nI (gP g)) 0 (-1) 1 0 = _
      unfold M_L_law_L906
      rw [if_pos (show (-1 : Int32) ≠ 1 by decide)]
      split <;> rfl
    rw [el, bnd1_some]
    exact s_1410 hU hn ha hb hS (Or.inl ⟨rfl, h1⟩)
  by_cases hs4 : ∃ s : Fin 4, nI j - 2 = nI s.val
  · obtain ⟨⟨s, hs4⟩, es⟩ := hs4
    have es : nI j - 2 = nI s := es
    rw [es] at no ⊢
    have em : M_X8_may σ (nI s) 0 = some (mkN (fun c => !(if false = true then rfM T g s c else rfA T g s c)) (tN T)) := x_may h hs4 false
    rw [em, bnd1_some, if_neg (nI_n0 (by omega)), if_neg (fun z => by have := (nI_leI (a := 4) (by decide) (by omega)).mp z; omega)]
    by_cases haN : a < tN T
    · rw [if_neg (fun z => by have := (nI_leI (by omega) (by omega)).mp z; omega)]
      by_cases hfC : f < tC T
      · rw [if_neg (fun z => by have := (nI_leI (by omega) (by omega)).mp z; omega)]
        obtain ⟨⟨σ1, e1, h1⟩, _⟩ := x_cell h haN hfC
        have eb : ((mkN (fun c => !(if false = true then rfM T g s c else rfA T g s c)) (tN T) >>> (nI a &&& 31)) &&& (1 : Int32)) = if (!rfA T g s a) = true then 1 else 0 := mk_bit n5.2.1 haN
        rcases x_ask h1 hU hs4 haN hfC with ⟨hr, σ2, e2, h2⟩ | ⟨hr, g', σ2, hA, e2, h2⟩
        · obtain ⟨f1, f2, f3, f4, f5, f6, f7, f8⟩ := rfG_f (g := g) (c := a) (s := s)
          have q2 := smN_up (g := g) (g' := shG (uV (opG g a) 5 s (iRf g s + 1)) a) (j := 2) (c := a) (d := 1) f6 (tN T)
          rw [if_pos haN] at q2
          have q3 := rfN_up (g := g) (g' := shG (uV (opG g a) 5 s (iRf g s + 1)) a) f8 4
          rw [if_pos hs4] at q3
          unfold M_L_law_J799
          rw [e1, bnd2_some, e2, bnd2_some, if_neg n10, eb, hr]
          unfold M_L_law_J842 M_L_law_J862 M_L_law_J896 M_L_law_J901
          have el : iter (fun s_1 : Int32 × Int32 => M_L_law_L906 q σ2 (nI (tN T)) (nI (tC T)) (nI n) (nI a) (nI b) (nI s) (nI (gW g)) (nI (gO g)) (smN g 0 (tN T)) (smN g 2 (tN T)) (rfN g 4) (nI un) (copyV T g a 0) (copyV T g b 1) (nI (gQ g 0)) (nI (gP g)) (1 : Int32) (0 : Int32) s_1.1 s_1.2) FU ((1 : Int32), (0 : Int32)) = some 1 := by
            unfold FU
            refine it_x ?_
            show M_L_law_L906 q σ2 (nI (tN T)) (nI (tC T)) (nI n) (nI a) (nI b) (nI s) (nI (gW g)) (nI (gO g)) (smN g 0 (tN T)) (smN g 2 (tN T)) (rfN g 4) (nI un) (copyV T g a 0) (copyV T g b 1) (nI (gQ g 0)) (nI (gP g)) 1 0 1 0 = _
            unfold M_L_law_L906
            rw [if_pos (show (0 : Int32) ≠ 1 by decide)]
            split <;> rfl
          rw [if_neg (show ¬ (0 : Int32) ≠ (if (!true) = true then (1 : Int32) else 0) by decide), if_pos (show (0 : Int32) ≠ 1 by decide), if_neg n10, x_count12 h2, bnd2_some, q2, if_neg (fun z => z rfl), x_count16 h2, bnd2_some, q3, if_neg (fun z => z (by simp)), el, bnd1_some]
          exact s_1410 hU hn ha hb hS (Or.inr ⟨rfl, _, rfG_S hS, h2⟩)
        · obtain ⟨hSS, hrf⟩ := askS_b hS hA hs4
          obtain ⟨a1, a2, a3, a4, a5, a6⟩ := hA
          have q2 := smN_up (g := g) (g' := g') (j := 2) (c := a) (d := 1) a5 (tN T)
          rw [if_pos haN] at q2
          obtain ⟨_, _, e3, _⟩ := x_sess h2 hs4
          rw [a4] at e3
          have hW' : gW g' = gW g := a1 0 0 0 (by decide) (by decide) (by decide)
          have el : ∀ d o fu, o + d = tN T → d < fu → iter (fun s_1 : Int32 × Int32 => M_L_law_L906 q σ2 (nI (tN T)) (nI (tC T)) (nI n) (nI a) (nI b) (nI s) (nI (gW g)) (nI (gO g)) (smN g 0 (tN T)) (smN g 2 (tN T)) (rfN g 4) (nI un) (copyV T g a 0) (copyV T g b 1) (nI (gQ g 0)) (nI (gP g)) (1 : Int32) (1 : Int32) s_1.1 s_1.2) fu ((1 : Int32), nI o) = some 1 := by
            intro d
            induction d with
            | zero =>
              intro o fu ho hf
              obtain ⟨m, rfl⟩ : ∃ m, fu = m + 1 := ⟨fu - 1, by omega⟩
              refine it_x ?_
              show M_L_law_L906 q σ2 (nI (tN T)) (nI (tC T)) (nI n) (nI a) (nI b) (nI s) (nI (gW g)) (nI (gO g)) (smN g 0 (tN T)) (smN g 2 (tN T)) (rfN g 4) (nI un) (copyV T g a 0) (copyV T g b 1) (nI (gQ g 0)) (nI (gP g)) 1 1 1 (nI o) = _
              unfold M_L_law_L906
              rw [if_pos ((nI_leI (by omega) (by omega)).mpr (by omega))]
            | succ d ih =>
              intro o fu ho hf
              obtain ⟨m, rfl⟩ : ∃ m, fu = m + 1 := ⟨fu - 1, by omega⟩
              refine (it_s ?_).trans (ih (o + 1) m (by omega) (by omega))
              show M_L_law_L906 q σ2 (nI (tN T)) (nI (tC T)) (nI n) (nI a) (nI b) (nI s) (nI (gW g)) (nI (gO g)) (smN g 0 (tN T)) (smN g 2 (tN T)) (rfN g 4) (nI un) (copyV T g a 0) (copyV T g b 1) (nI (gQ g 0)) (nI (gP g)) 1 1 1 (nI o) = _
              obtain ⟨e4, _⟩ := x_of h2 hs4 (o := o) (by omega)
              have e5 := x_vector h2 haN (o := o) (by omega)
              have hE := a2 o (by omega)
              have hv : vecN g' a o (gW g') = vecN g a o (gW g) := by
                rw [hW']
                exact vec_at (fun t x y ht => a1 t x y (by omega) (by omega) (by omega)) _
              have b1 := (h2.inv.2.2.2.2.2.2.2.2.2.2.2.1 s hs4).2 o
              have b2 := vecN_le (c := a) (o := o) h2.inv (gW g') (Nat.le_refl _)
              unfold M_L_law_L906 M_L_law_J949
              rw [if_neg (fun z => by have := (nI_leI (by omega) (by omega)).mp z; omega), if_neg (fun z => z rfl), if_neg n10, show M_X8_of σ2 (nI s) (nI o) 0 = _ from e4, bnd1_some, e5, bnd1_some, if_neg (fun z => by
                have := (nI_ltI (by omega) (by omega)).mp z
                rw [hv, hE] at this
                omega)]
              simp only [lt_eq, nI_1]
          have el0 := el (tN T) 0 FU (by omega) (FU_big (by omega))
          have el0 : iter (fun s_1 : Int32 × Int32 => M_L_law_L906 q σ2 (nI (tN T)) (nI (tC T)) (nI n) (nI a) (nI b) (nI s) (nI (gW g)) (nI (gO g)) (smN g 0 (tN T)) (smN g 2 (tN T)) (rfN g 4) (nI un) (copyV T g a 0) (copyV T g b 1) (nI (gQ g 0)) (nI (gP g)) (1 : Int32) (1 : Int32) s_1.1 s_1.2) FU ((1 : Int32), (0 : Int32)) = some 1 := el0
          unfold M_L_law_J799
          rw [e1, bnd2_some, e2, bnd2_some, if_neg n10, eb, hr]
          unfold M_L_law_J842 M_L_law_J862 M_L_law_J896 M_L_law_J901
          rw [if_neg (show ¬ (1 : Int32) ≠ (if (!false) = true then (1 : Int32) else 0) by decide), if_neg (fun z => z rfl), e3, bnd1_some, if_neg (fun z => z rfl), if_neg n10, x_count12 h2, bnd2_some, q2, if_neg (fun z => z rfl), x_count16 h2, bnd2_some, hrf, if_neg (fun z => z (by rw [Int32.add_sub_cancel])), el0, bnd1_some]
          exact s_1410 hU hn ha hb hS (Or.inr ⟨rfl, _, hSS, h2⟩)
      · rw [if_pos ((nI_leI (by omega) (by omega)).mpr (by omega))]
        exact no _ (Or.inr ⟨s, hs4, rfl⟩) (Or.inr (Or.inr (by omega))) _ rfl
    · rw [if_pos ((nI_leI (by omega) (by omega)).mpr (by omega))]
      exact no _ (Or.inr ⟨s, hs4, rfl⟩) (Or.inr (Or.inl (by omega))) _ rfl
  · have hb2 : nI j - 2 < 0 ∨ (4 : Int32) ≤ nI j - 2 := by
      rcases ses_c ⟨j, hj⟩ with e | e | e | e
      · left; rw [show nI j - 2 = (-2 : Int32) from e]; decide
      · left; rw [show nI j - 2 = (-1 : Int32) from e]; decide
      · exact absurd e hs4
      · right; exact e
    have hns : M_X8_isSession (nI j - 2) = some 0 := c_isSession_f hb2
    rw [may_no hns, bnd1_some]
    by_cases c1 : nI j - 2 < 0
    · rw [if_pos c1]
      exact no _ (Or.inl hns) (Or.inl hns) _ rfl
    · rw [if_neg c1, if_pos (hb2.resolve_left c1)]
      exact no _ (Or.inl hns) (Or.inl hns) _ rfl
end ST4
