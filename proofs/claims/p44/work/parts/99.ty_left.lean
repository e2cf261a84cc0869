/-! where nothing was done: what the class answers -/
section SB
variable {T : Td} {p : Nat} {hs sl : Nat → Gs} {hl : Nat → Nat} {σ : Wd}
theorem smN_B : ∀ (j n : Nat), smN (gB p) j n = 0 := by
  intro j n
  induction n with
  | zero => rfl
  | succ n ih => show smN (gB p) j n + 0 = 0; rw [ih]; rfl
theorem SI_B : SI 0 (gB p) := ⟨Nat.le_refl _, Nat.le_refl _, fun _ => rfl, fun _ => ⟨0, rfl, Nat.le_refl _⟩⟩
theorem ln_B {un : Nat} (h : At T (gB p) un hs sl hl σ) {c : Nat} (hc : c < tN T) : ln (gB p) c = 0 := by
  have := (h.lnW hc).1
  have e : gW (gB p) = 0 := rfl
  omega
theorem copy_B {un : Nat} (h : At T (gB p) un hs sl hl σ) {c : Nat} (hc : c < tN T) {k : Nat} (hk : k < 9) : copyV T (gB p) c k = 0 := by
  have hl0 := ln_B h hc
  unfold copyV
  rw [if_pos hc]
  by_cases k0 : k = 0
  · rw [if_pos k0]; rfl
  rw [if_neg k0]
  by_cases k1 : k = 1
  · rw [if_pos k1, hl0]; rfl
  rw [if_neg k1]
  by_cases k2 : k = 2
  · rw [if_pos k2]; rfl
  rw [if_neg k2]
  by_cases k7 : k < 7
  · rw [if_pos k7]; rfl
  rw [if_neg k7]
  by_cases k8 : k = 7
  · rw [if_pos k8]
    unfold mgN
    rw [hl0]; rfl
  · rw [if_neg k8]
    unfold idN
    rw [hl0]; rfl
theorem mg_B {un : Nat} (h : At T (gB p) un hs sl hl σ) : mgN T (gB p) (gP (gB p)) = 0 ∧ idN T (gB p) (gP (gB p)) = 0 := by
  have hl0 := ln_B h h.n5.2.2.2.2.2.2
  unfold mgN idN
  rw [hl0]
  exact ⟨rfl, rfl⟩
theorem same_B {n nc : Nat} {iv fs : Nat → Int32} (hn : tN T = n) (hc : tC T = nc) (h0 : iv 0 = nI (tN T)) (h1 : iv 1 = nI (tC T)) (h2 : iv 2 = nI (tF T)) (h6 : iv 6 = nI p) (hf : ∀ k, k < nc → fs k = tI T k) : SameF (fun σ => At T (gB p) 0 hs sl hl σ) n nc iv fs := by
  subst hn
  subst hc
  have cnt : ∀ {σ : Wd}, At T (gB p) 0 hs sl hl σ → ∀ {k v w : Int32}, M_X8_count σ k = some (w, σ) → v = w → ∃ σ', M_X8_count σ k = some (v, σ') ∧ At T (gB p) 0 hs sl hl σ' := fun {σ} h {k v w} e q => ⟨σ, by rw [q]; exact e, h⟩
  refine ⟨fun σ h c hc => ?_, fun σ h c hc k hk => ?_, fun σ h c hc o ho => ?_, fun σ h c hc k hk => ?_, fun σ h c hc k hk => ?_, fun σ h => cnt h (x_count0 h) h0, fun σ h => cnt h (x_count1 h) h1, fun σ h => cnt h (x_count2 h) h2, fun σ h => cnt h (x_count3 h) rfl, fun σ h => cnt h (x_count4 h) rfl, fun σ h => cnt h (x_count5 h) h6, fun σ h => cnt h (x_count6 h) rfl, fun σ h => cnt h (x_count7 h) (smN_B 0 _).symm, fun σ h => ?_, fun σ h => cnt h (x_count12 h) (smN_B 2 _).symm, fun σ h => cnt h (x_count13 h) (smN_B 3 _).symm, fun σ h => cnt h (x_count14 h) ?_, fun σ h => cnt h (x_count15 h) rfl, fun σ h => cnt h (x_count16 h) rfl, fun σ h => ?_, fun σ h => ?_, fun σ h s hs4 => (x_sess h hs4).1, fun σ h s hs4 => (x_sess h hs4).2.1, fun σ h s hs4 => (x_sess h hs4).2.2.1, fun σ h s hs4 o ho => (x_of h hs4 ho).1, fun σ h s hs4 o ho => (x_of h hs4 ho).2, fun σ h i hi => ?_⟩
  · obtain ⟨σ', e, h'⟩ := x_log h (c := c) (i := 0) hc (by decide)
    rw [if_neg (by rw [ln_B h hc]; decide)] at e
    exact ⟨σ', e, h'⟩
  · have n5 := h.n5
    obtain ⟨σ', e, h'⟩ := x_copy h (c := c) (k := k) (by omega) hk
    rw [copy_B h hc hk] at e
    exact ⟨σ', e, h'⟩
  · exact x_vector h hc ho
  · obtain ⟨⟨σ', e, h'⟩, _⟩ := x_cell h hc hk
    rw [ln_B h hc] at e
    exact ⟨σ', by rw [hf k hk]; exact e, h'⟩
  · obtain ⟨_, σ', e, h'⟩ := x_cell h hc hk
    exact ⟨σ', by rw [hf k hk]; exact e, h'⟩
  · refine cnt h (x_count10 h) ?_
    rw [allB_of (k := 0) h.inv (fun c w _ hw => absurd hw (Nat.not_lt_zero w)) (fun _ _ => rfl)]
    rfl
  · have n5 := h.n5
    obtain ⟨m, hm⟩ : ∃ m, tN T = m + 1 := ⟨tN T - 1, by omega⟩
    rw [hm]
    show (0 : Int32) = nI (min (mnN (gB p) m) 0)
    rw [Nat.min_zero]
    rfl
  · obtain ⟨σ', e, h'⟩ := x_count17 h
    rw [(mg_B h).1] at e
    exact ⟨σ', e, h'⟩
  · obtain ⟨σ', e, h'⟩ := x_count18 h
    rw [(mg_B h).2] at e
    exact ⟨σ', e, h'⟩
  · have := x_shut h hi
    rw [if_neg (show ¬ i < gH (gB p) from Nat.not_lt_zero i)] at this
    exact this
end SB
/-- what is left to be shown: the text told is read, and what then stands is where nothing was done -/
def ReadOk (X : Nat → Int32) : Prop := ∃ (T : Td) (σ1 σ2 σ3 : Wd) (hs sl : Nat → Gs) (hl : Nat → Nat), M_X1_begin sg8 3 0 = some σ1 ∧ M_L_told (smF X 8) (X 0) (X 1) σ1 = some σ2 ∧ M_X8_read σ2 = some (0, σ3) ∧ At T (gB (tP T)) 0 hs sl hl σ3 ∧ hl 1 = 0 ∧ tdCop (X 1) = nI (tN T) ∧ tdCel (X 0) = nI (tC T) ∧ tdFor (X 0) (X 1) = nI (tF T) ∧ tdPri (X 0) (X 1) = nI (tP T) ∧ tC T ≤ 4 ∧ tF T ≤ 4 ∧ (0 < tF T → 0 < tC T) ∧ (∀ k, k < tC T → tdFs (X 1) (ix (tdCel (X 0))) k = tI T k) ∧ ∀ f, f < tF T → tE T f ≠ 0 → ¬ hwF (smF X 8 f) (tdCel (X 0)) 2 < 0
theorem lawP_of {X : Nat → Int32} (h : ReadOk X) : LawP X := by
  obtain ⟨T, σ1, σ2, σ3, hs, sl, hl, e1, e2, e3, hA, h1, c1, c2, c3, c4, b1, b2, b3, b4, b5⟩ := h
  have n5 := hA.n5
  refine ⟨σ1, σ2, σ3, fun σ => At T (gB (tP T)) 0 hs sl hl σ, tN T, tC T, e1, e2, e3, ⟨n5.1, n5.2.1, b1, c1, c2, tF T, c3, b2⟩, hA, same_B rfl rfl c1 c2 c3 c4 b4, fun σ4 h4 G u => ?_⟩
  have hL : LQ T (qL X G u) := by
    refine ⟨c1, c2, c3, ?_, b1, b3, b4, b5⟩
    show tF T ≤ min (ix (tdFor (X 0) (X 1))) 4
    rw [c3, ix_nI (by omega)]
    omega
  obtain ⟨⟨r, σ5⟩, e, hr⟩ := law_ok hL h4 h1 SI_B
  have hr : r = 1 := hr
  exact ⟨σ5, by rw [e, hr]⟩
