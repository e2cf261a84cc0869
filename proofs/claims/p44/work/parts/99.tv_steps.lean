/-! the law's steps, all of them -/
section ST6
variable {T : Td} {g : Gs} {un : Nat} {hs sl : Nat → Gs} {hl : Nat → Nat} {σ : Wd} {q : Lq}
/-- nothing made -/
theorem s_405 (h : At T g un hs sl hl σ) (hU : un < 40) {k n a b f : Nat} {v t : Int32} (hf : f ≤ tF T) (hn : n < 44) (ha : a ≤ tN T) (hb : b ≤ tN T) (hS : SI k g) (hbad : (v ≠ -1 ∧ M_X8_isSession v = some 0) ∨ tN T ≤ a ∨ tF T ≤ f) (hv : v = -1 ∨ M_X8_isSession v = some 0 ∨ ∃ s, s < 4 ∧ v = nI s) : Ends T un k sl hl n (M_L_law_J405 q σ (nI (tN T)) (nI (tC T)) (nI n) (nI a) (nI b) v (nI (gW g)) (nI (gO g)) (smN g 0 (tN T)) (smN g 2 (tN T)) (rfN g 4) (nI un) (copyV T g a 0) (copyV T g b 1) (nI (gQ g 0)) (nI (gP g)) (nI f) t) := by
  have n5 := h.n5
  have e := x_makeBad h (v := v) (x := ((lX q (ix (nI n))) >>> ((3 : Int32) &&& 31)) &&& (15 : Int32)) (c := a) (f := f) (by omega) (by omega) hbad hv
  unfold M_L_law_J405 M_L_law_J406
  rw [chk_pos ((ib_nI (by omega)).mpr (by omega)), e, bnd2_some, if_pos (show (-1 : Int32) < 0 by decide)]
  unfold M_L_law_J439 M_L_law_J460 M_L_law_J461 M_L_law_J476 M_L_law_J490 M_L_law_J491 M_L_law_J659 M_L_law_J675
  rw [if_pos rfl, if_neg (fun z => z rfl), if_pos (show (-1 : Int32) ≠ -2 by decide), if_pos rfl, if_neg (fun z => z rfl), if_pos (show (-1 : Int32) < 0 by decide), x_count7 h, bnd2_some, if_neg (fun z => z rfl), if_pos rfl]
  exact s_1410 hU hn ha hb hS (Or.inl ⟨rfl, h⟩)
/-- made or refused -/
theorem s_406 (h : At T g un hs sl hl σ) (hU : un < 40) {k n a b f : Nat} {v t : Int32} (hW : gW g < 60) (hf : f < tF T) (hn : n < 44) (ha : a < tN T) (hb : b ≤ tN T) (hS : SI k g) (hv : v = -1 ∨ ∃ s, s < 4 ∧ v = nI s) (ht : (v = -1 → t ≠ 0) ∧ ∀ s, s < 4 → v = nI s → (t = 0 ↔ rfM T g s a = true)) : Ends T un k sl hl n (M_L_law_J406 q σ (nI (tN T)) (nI (tC T)) (nI n) (nI a) (nI b) v (nI (gW g)) (nI (gO g)) (smN g 0 (tN T)) (smN g 2 (tN T)) (rfN g 4) (nI un) (copyV T g a 0) (copyV T g b 1) (nI (gQ g 0)) (nI (gP g)) (nI f) t (1 : Int32)) := by
  have n5 := h.n5
  rcases x_make h hU (x := ((lX q (ix (nI n))) >>> ((3 : Int32) &&& 31)) &&& (15 : Int32)) ha hf hv hW with ⟨s, hs4, rfl, hr, σ1, e, h1⟩ | ⟨hr, gm, σ1, hg, e, h1⟩
  · obtain ⟨f1, f2, f3, f4, f5, f6, f7, f8⟩ := rfG_f (g := g) (c := a) (s := s)
    have q2 := smN_up (g := g) (g' := shG (uV (opG g a) 5 s (iRf g s + 1)) a) (j := 2) (c := a) (d := 1) f6 (tN T)
    rw [if_pos ha] at q2
    have q3 := rfN_up (g := g) (g' := shG (uV (opG g a) 5 s (iRf g s + 1)) a) f8 4
    rw [if_pos hs4] at q3
    have q0 := smN_eq (g := g) (g' := shG (uV (opG g a) 5 s (iRf g s + 1)) a) (j := 0) f5 (tN T)
    have ht0 : t = 0 := (ht.2 s hs4 rfl).mpr hr
    have e8 := x_shut h1 (i := 0) (by decide)
    rw [f3, f4, if_pos (by omega)] at e8
    have e8' : M_X8_shut σ1 0 = some (nI a) := e8
    unfold M_L_law_J406
    rw [chk_pos ((ib_nI (by omega)).mpr (by omega)), e, bnd2_some, if_pos (show (-2 : Int32) < 0 by decide)]
    unfold M_L_law_J439 M_L_law_J460 M_L_law_J461 M_L_law_J476 M_L_law_J491 M_L_law_J659 M_L_law_J675 M_L_law_J728 M_L_law_J737
    rw [if_neg n10, if_pos ht0, if_neg (fun z => z rfl), if_neg (fun z => z rfl), if_neg n10, if_neg (fun z => z ht0), if_neg (fun z => z rfl), if_pos (show (-2 : Int32) < 0 by decide), x_count7 h1, bnd2_some, q0, if_neg (fun z => z rfl), if_neg n10, if_neg n10, e8', bnd1_some, if_neg (fun z => z rfl), x_count12 h1, bnd2_some, q2, if_neg (fun z => z rfl), x_count16 h1, bnd2_some, q3, if_pos ht0, if_neg (fun z => z rfl)]
    exact s_1410 hU hn (by omega) hb hS (Or.inr ⟨rfl, _, rfG_S hS, h1⟩)
  · have htn : t ≠ 0 := by
      rcases hr with e | ⟨s, hs4, e, e2⟩
      · exact ht.1 e
      · exact fun z => by
          have := (ht.2 s hs4 e).mp z
          rw [e2] at this
          exact absurd this (by decide)
    unfold M_L_law_J406
    rw [chk_pos ((ib_nI (by omega)).mpr (by omega)), e, bnd2_some, if_neg (nI_n0 (by omega))]
    exact s_made hU hW h.inv (made hg) h1 ha hf htn hn hb hS
theorem s_316 (hL : LQ T q) (h : At T g un hs sl hl σ) (hU : un < 40) {k n a b j : Nat} (hj : j < 8) (hW : gW g < 60) (hn : n < 44) (ha : a ≤ tN T) (hb : b ≤ tN T) (hS : SI k g) : Ends T un k sl hl n (M_L_law_J316 q σ (nI (tN T)) (nI (tC T)) (nI n) (nI a) (nI b) (nI j - 2) (nI (gW g)) (nI (gO g)) (smN g 0 (tN T)) (smN g 2 (tN T)) (rfN g 4) (nI un) (copyV T g a 0) (copyV T g b 1) (nI (gQ g 0)) (nI (gP g))) := by
  have n5 := h.n5
  obtain ⟨f, hf, ef⟩ := rem255 (x := (lX q (ix (nI n))) >>> ((10 : Int32) &&& 31)) (m := tF T + 1) (by omega) (by omega)
  unfold M_L_law_J316
  rw [chk_pos ((ib_nI (by omega)).mpr (by omega)), hL.f, show nI (tF T) + (1 : Int32) = nI (tF T + 1) from nI_1 _, chk_pos (show ¬ nI (tF T + 1) = 0 from fun z => by have := (nI_eq (b := 0) (by omega) (by decide)).mp z; omega), ef, lt_eq]
  -- the session stands or there is none
  have go : ∀ t, (nI j - 2 = (-1 : Int32) ∨ ∃ s, s < 4 ∧ nI j - 2 = nI s) → (a < tN T → (nI j - 2 = (-1 : Int32) → t ≠ 0) ∧ ∀ s, s < 4 → nI j - 2 = nI s → (t = 0 ↔ rfM T g s a = true)) → Ends T un k sl hl n (M_L_law_J369 q σ (nI (tN T)) (nI (tC T)) (nI n) (nI a) (nI b) (nI j - 2) (nI (gW g)) (nI (gO g)) (smN g 0 (tN T)) (smN g 2 (tN T)) (rfN g 4) (nI un) (copyV T g a 0) (copyV T g b 1) (nI (gQ g 0)) (nI (gP g)) (nI f) t) := fun t hv ht => by
    have hv3 : nI j - 2 = (-1 : Int32) ∨ M_X8_isSession (nI j - 2) = some 0 ∨ ∃ s, s < 4 ∧ nI j - 2 = nI s := hv.elim Or.inl (fun z => Or.inr (Or.inr z))
    have c1 : ¬ nI j - 2 ≤ (-2 : Int32) := by
      rcases hv with e | ⟨s, hs4, e⟩
      · rw [e]; decide
      · rw [e]; rcases (show s = 0 ∨ s = 1 ∨ s = 2 ∨ s = 3 by omega) with rfl | rfl | rfl | rfl <;> decide
    have c2 : ¬ (4 : Int32) ≤ nI j - 2 := by
      rcases hv with e | ⟨s, hs4, e⟩
      · rw [e]; decide
      · rw [e]; rcases (show s = 0 ∨ s = 1 ∨ s = 2 ∨ s = 3 by omega) with rfl | rfl | rfl | rfl <;> decide
    unfold M_L_law_J369
    rw [if_neg c1, if_neg c2]
    by_cases haN : a < tN T
    · rw [if_neg (fun z => by have := (nI_leI (by omega) (by omega)).mp z; omega), hL.f]
      by_cases hfF : f < tF T
      · rw [if_neg (fun z => by have := (nI_leI (by omega) (by omega)).mp z; omega)]
        exact s_406 h hU hW hfF hn haN hb hS hv (ht haN)
      · rw [if_pos ((nI_leI (by omega) (by omega)).mpr (by omega))]
        exact s_405 h hU (by omega) hn ha hb hS (Or.inr (Or.inr (by omega))) hv3
    · rw [if_pos ((nI_leI (by omega) (by omega)).mpr (by omega))]
      exact s_405 h hU (by omega) hn ha hb hS (Or.inr (Or.inl (by omega))) hv3
  rcases ses_c ⟨j, hj⟩ with e | e | ⟨⟨s, hs4⟩, e⟩ | e
  · have e : nI j - 2 = (-2 : Int32) := e
    have hns : M_X8_isSession (nI j - 2) = some 0 := c_isSession_f (Or.inl (by rw [e]; decide))
    have hne : nI j - 2 ≠ (-1 : Int32) := by rw [e]; decide
    rw [if_pos (show nI j - 2 < 0 by rw [e]; decide)]
    unfold M_L_law_J364 M_L_law_J369
    rw [if_pos (show nI j - 2 ≤ (-2 : Int32) by rw [e]; decide)]
    exact s_405 h hU (by omega) hn ha hb hS (Or.inl ⟨hne, hns⟩) (Or.inr (Or.inl hns))
  · have e : nI j - 2 = (-1 : Int32) := e
    rw [if_pos (show nI j - 2 < 0 by rw [e]; decide)]
    exact go 1 (Or.inl e) (fun _ => ⟨fun _ => n01, fun s hs4 e2 => absurd (e.symm.trans e2) (by rcases (show s = 0 ∨ s = 1 ∨ s = 2 ∨ s = 3 by omega) with rfl | rfl | rfl | rfl <;> decide)⟩)
  · have e : nI j - 2 = nI s := e
    have em : M_X8_may σ (nI j - 2) 1 = some (mkN (fun c => !(if true = true then rfM T g s c else rfA T g s c)) (tN T)) := by rw [e]; exact x_may h hs4 true
    rw [if_neg (show ¬ nI j - 2 < 0 by rw [e]; exact nI_n0 (by omega)), if_neg (show ¬ (4 : Int32) ≤ nI j - 2 by rw [e]; exact fun z => by have := (nI_leI (a := 4) (by decide) (by omega)).mp z; omega), em, bnd1_some]
    have hu : ∀ s', s' < 4 → nI j - 2 = nI s' → s' = s := fun s' h4 e2 => (nI_eq (by omega) (by omega)).mp (e2.symm.trans e)
    have hm1 : nI j - 2 ≠ (-1 : Int32) := by rw [e]; rcases (show s = 0 ∨ s = 1 ∨ s = 2 ∨ s = 3 by omega) with rfl | rfl | rfl | rfl <;> decide
    by_cases haN : a < tN T
    · have eb : ((mkN (fun c => !(if true = true then rfM T g s c else rfA T g s c)) (tN T) >>> (nI a &&& 31)) &&& (1 : Int32)) = if (!rfM T g s a) = true then 1 else 0 := mk_bit n5.2.1 haN
      rw [eb]
      cases hr : rfM T g s a
      · rw [if_neg (show ¬ (if (!false) = true then (1 : Int32) else 0) ≠ 1 from fun z => z rfl)]
        exact go 1 (Or.inr ⟨s, hs4, e⟩) (fun _ => ⟨fun z => absurd z hm1, fun s' h4 e2 => by rw [hu s' h4 e2, hr]; exact ⟨fun z => absurd z n10, fun z => absurd z (by decide)⟩⟩)
      · rw [if_pos (show (if (!true) = true then (1 : Int32) else 0) ≠ 1 by decide)]
        exact go 0 (Or.inr ⟨s, hs4, e⟩) (fun _ => ⟨fun z => absurd z hm1, fun s' h4 e2 => by rw [hu s' h4 e2, hr]; exact ⟨fun _ => rfl, fun _ => rfl⟩⟩)
    · generalize ((mkN (fun c => !(if true = true then rfM T g s c else rfA T g s c)) (tN T) >>> (nI a &&& 31)) &&& (1 : Int32)) = z
      by_cases hz : z ≠ 1
      · rw [if_pos hz]
        exact go 0 (Or.inr ⟨s, hs4, e⟩) (fun z => absurd z haN)
      · rw [if_neg hz]
        exact go 1 (Or.inr ⟨s, hs4, e⟩) (fun z => absurd z haN)
  · have e : (4 : Int32) ≤ nI j - 2 := e
    have hns : M_X8_isSession (nI j - 2) = some 0 := c_isSession_f (Or.inr e)
    have hne : nI j - 2 ≠ (-1 : Int32) := fun z => by rw [z] at e; exact absurd e (by decide)
    have h0 : ¬ nI j - 2 < 0 := fun z => by
      rcases (show j = 0 ∨ j = 1 ∨ j = 2 ∨ j = 3 ∨ j = 4 ∨ j = 5 ∨ j = 6 ∨ j = 7 by omega) with rfl | rfl | rfl | rfl | rfl | rfl | rfl | rfl <;> first | exact absurd e (by decide) | exact absurd z (by decide)
    have h2 : ¬ nI j - 2 ≤ (-2 : Int32) := fun z => by
      rcases (show j = 0 ∨ j = 1 ∨ j = 2 ∨ j = 3 ∨ j = 4 ∨ j = 5 ∨ j = 6 ∨ j = 7 by omega) with rfl | rfl | rfl | rfl | rfl | rfl | rfl | rfl <;> first | exact absurd e (by decide) | exact absurd z (by decide)
    rw [if_neg h0, if_pos e]
    unfold M_L_law_J368 M_L_law_J369
    rw [if_neg h2, if_pos e]
    exact s_405 h hU (by omega) hn ha hb hS (Or.inl ⟨hne, hns⟩) (Or.inr (Or.inl hns))
end ST6
