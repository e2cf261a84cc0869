/-! changes, place by place -/
def crP (n : Nat) (g : Gs) (j : Nat) (x : Int64) : Prop :=
  (j = 0 → x = lN n) ∧ (j = 1 → x = lN (gP g)) ∧ (j = 2 → x = lN (gW g)) ∧ (j = 3 → x = lN (gO g)) ∧ (j = 4 → x = lN (gC g)) ∧ (j = 5 → x = lN (gH g)) ∧
  (∀ k, k < gH g → j = 36 + k → x = lN (gh g k)) ∧
  (∀ c, c < 5 → (j = 6 + c → ∀ w, w < 64 → x.toBitVec.getLsbD w = decide (w < 60 ∧ gA g c w = 1)) ∧ (j = 11 + c → x = lN (gK g c)) ∧ (j = 16 + c → x.toInt32 = iC g 0 c) ∧ (j = 21 + c → x.toInt32 = iC g 1 c) ∧ (j = 26 + c → x.toInt32 = iC g 2 c) ∧ (j = 31 + c → x.toInt32 = iC g 3 c)) ∧
  (∀ s, s < 4 → (j = 44 + s → x = lN (gQ g s)) ∧ (j = 48 + s → x.toInt32 = iRf g s) ∧ (j = 52 + s → x.toInt32 = iGt g s) ∧ ∀ o, o < 5 → (j = 56 + 5 * s + o → x = lN (gE g s o)) ∧ (j = 76 + 5 * s + o → x = lN (gU g s o)))
theorem CR_iff {n : Nat} {g : Gs} {r : Nat → Int64} : CR n g r ↔ ∀ j, crP n g j (r j) := by
  constructor
  · intro ⟨⟨a1, a2, a3, a4, a5, a6⟩, b, c, d⟩ j
    refine ⟨fun e => by subst e; exact a1, fun e => by subst e; exact a2, fun e => by subst e; exact a3, fun e => by subst e; exact a4, fun e => by subst e; exact a5, fun e => by subst e; exact a6, fun k hk e => by subst e; exact b k hk, fun q hq => ?_, fun s hs => ?_⟩
    · obtain ⟨c1, c2, c3, c4, c5, c6⟩ := c q hq
      exact ⟨fun e => by subst e; exact c1, fun e => by subst e; exact c2, fun e => by subst e; exact c3, fun e => by subst e; exact c4, fun e => by subst e; exact c5, fun e => by subst e; exact c6⟩
    · obtain ⟨d1, d2, d3, d4⟩ := d s hs
      exact ⟨fun e => by subst e; exact d1, fun e => by subst e; exact d2, fun e => by subst e; exact d3, fun o ho => ⟨fun e => by subst e; exact (d4 o ho).1, fun e => by subst e; exact (d4 o ho).2⟩⟩
  · intro h
    exact ⟨⟨(h 0).1 rfl, (h 1).2.1 rfl, (h 2).2.2.1 rfl, (h 3).2.2.2.1 rfl, (h 4).2.2.2.2.1 rfl, (h 5).2.2.2.2.2.1 rfl⟩, fun k hk => (h _).2.2.2.2.2.2.1 k hk rfl, fun c hc => ⟨((h _).2.2.2.2.2.2.2.1 c hc).1 rfl, ((h _).2.2.2.2.2.2.2.1 c hc).2.1 rfl, ((h _).2.2.2.2.2.2.2.1 c hc).2.2.1 rfl, ((h _).2.2.2.2.2.2.2.1 c hc).2.2.2.1 rfl, ((h _).2.2.2.2.2.2.2.1 c hc).2.2.2.2.1 rfl, ((h _).2.2.2.2.2.2.2.1 c hc).2.2.2.2.2 rfl⟩, fun s hs => ⟨((h _).2.2.2.2.2.2.2.2 s hs).1 rfl, ((h _).2.2.2.2.2.2.2.2 s hs).2.1 rfl, ((h _).2.2.2.2.2.2.2.2 s hs).2.2.1 rfl, fun o ho => ⟨(((h _).2.2.2.2.2.2.2.2 s hs).2.2.2 o ho).1 rfl, (((h _).2.2.2.2.2.2.2.2 s hs).2.2.2 o ho).2 rfl⟩⟩⟩
def mrP (g : Gs) (j : Nat) (x : Int32) : Prop :=
  (j = 0 → x = nI (gW g)) ∧ (j = 1 → x = nI (gO g)) ∧ (j = 2 → x = nI (gP g)) ∧ (j = 3 → x = nI (gC g)) ∧ (j = 4 → x = nI (gH g)) ∧
  (∀ k, k < gH g → j = 5 + k → x = nI (gh g k)) ∧
  (∀ c, c < 5 → (j = 15 + 6 * c → x = nI (gK g c)) ∧ ∀ i, i < 4 → j = 15 + 6 * c + 1 + i → x = iC g i c) ∧
  (∀ s, s < 4 → (j = 50 + 14 * s → x = nI (gQ g s)) ∧ (j = 50 + 14 * s + 1 → x = iRf g s) ∧ (j = 50 + 14 * s + 2 → x = iGt g s) ∧ ∀ o, o < 5 → (j = 50 + 14 * s + 3 + o → x = nI (gE g s o)) ∧ (j = 50 + 14 * s + 8 + o → x = nI (gU g s o))) ∧
  (∀ w, w < gW g → (j = 110 + 5 * w → x = nI (gF g w)) ∧ (j = 110 + 5 * w + 1 → x = iX g w) ∧ (j = 110 + 5 * w + 2 → x = nI (gN g w)) ∧ (j = 110 + 5 * w + 3 → x = nI (gS g w)) ∧ (j = 110 + 5 * w + 4 → (∀ i, i < gO g → gD g i ≠ w) → x = -2)) ∧
  (∀ i, i < gO g → (j = 410 + i → x = nI (gD g i)) ∧ (j = 110 + 5 * gD g i + 4 → x = nI i)) ∧
  (∀ c w, c < 5 → w < 60 → j = 470 + 60 * c + w → x = nI (gA g c w))
theorem MR_iff {g : Gs} {f : Nat → Int32} : MR g f ↔ ∀ j, mrP g j (f j) := by
  constructor
  · intro ⟨⟨a1, a2, a3, a4, a5⟩, b, c, d, e, k, a⟩ j
    refine ⟨fun e => by subst e; exact a1, fun e => by subst e; exact a2, fun e => by subst e; exact a3, fun e => by subst e; exact a4, fun e => by subst e; exact a5, fun k hk e => by subst e; exact b k hk, fun q hq => ⟨fun e => by subst e; exact (c q hq).1, fun i hi e => by subst e; exact (c q hq).2 i hi⟩, fun s hs => ?_, fun w hw => ?_, fun i hi => ⟨fun e => by subst e; exact (k i hi).1, fun e => by subst e; exact (k i hi).2⟩, fun c w hc hw e => by subst e; exact a c w hc hw⟩
    · obtain ⟨d1, d2, d3, d4⟩ := d s hs
      exact ⟨fun e => by subst e; exact d1, fun e => by subst e; exact d2, fun e => by subst e; exact d3, fun o ho => ⟨fun e => by subst e; exact (d4 o ho).1, fun e => by subst e; exact (d4 o ho).2⟩⟩
    · obtain ⟨d1, d2, d3, d4, d5⟩ := e w hw
      exact ⟨fun e => by subst e; exact d1, fun e => by subst e; exact d2, fun e => by subst e; exact d3, fun e => by subst e; exact d4, fun e => by subst e; exact d5⟩
  · intro h
    exact ⟨⟨(h 0).1 rfl, (h 1).2.1 rfl, (h 2).2.2.1 rfl, (h 3).2.2.2.1 rfl, (h 4).2.2.2.2.1 rfl⟩, fun k hk => (h _).2.2.2.2.2.1 k hk rfl, fun c hc => ⟨((h _).2.2.2.2.2.2.1 c hc).1 rfl, fun i hi => ((h _).2.2.2.2.2.2.1 c hc).2 i hi rfl⟩, fun s hs => ⟨((h _).2.2.2.2.2.2.2.1 s hs).1 rfl, ((h _).2.2.2.2.2.2.2.1 s hs).2.1 rfl, ((h _).2.2.2.2.2.2.2.1 s hs).2.2.1 rfl, fun o ho => ⟨(((h _).2.2.2.2.2.2.2.1 s hs).2.2.2 o ho).1 rfl, (((h _).2.2.2.2.2.2.2.1 s hs).2.2.2 o ho).2 rfl⟩⟩, fun w hw => ⟨((h _).2.2.2.2.2.2.2.2.1 w hw).1 rfl, ((h _).2.2.2.2.2.2.2.2.1 w hw).2.1 rfl, ((h _).2.2.2.2.2.2.2.2.1 w hw).2.2.1 rfl, ((h _).2.2.2.2.2.2.2.2.1 w hw).2.2.2.1 rfl, ((h _).2.2.2.2.2.2.2.2.1 w hw).2.2.2.2 rfl⟩, fun i hi => ⟨((h _).2.2.2.2.2.2.2.2.2.1 i hi).1 rfl, ((h _).2.2.2.2.2.2.2.2.2.1 i hi).2 rfl⟩, fun c w hc hw => (h _).2.2.2.2.2.2.2.2.2.2 c w hc hw rfl⟩
theorem CR_up {n : Nat} {g g' : Gs} {r : Nat → Int64} {k : Nat} {v : Int64} (h : CR n g r) (hk : crP n g' k v) (ho : ∀ j x, j ≠ k → crP n g j x → crP n g' j x) : CR n g' (vp_updL r k v) := by
  rw [CR_iff] at h ⊢
  intro j
  by_cases hj : j = k
  · subst hj
    rw [show vp_updL r j v j = v from if_pos rfl]
    exact hk
  · rw [show vp_updL r k v j = r j from if_neg hj]
    exact ho j _ hj (h j)
theorem MR_up {g g' : Gs} {r : Nat → Int32} {k : Nat} {v : Int32} (h : MR g r) (hk : mrP g' k v) (ho : ∀ j x, j ≠ k → mrP g j x → mrP g' j x) : MR g' (upd r k v) := by
  rw [MR_iff] at h ⊢
  intro j
  by_cases hj : j = k
  · subst hj
    rw [show upd r j v j = v from if_pos rfl]
    exact hk
  · rw [show upd r k v j = r j from if_neg hj]
    exact ho j _ hj (h j)
/-- one number, one int set anew -/
def uG (g : Gs) (t b c v : Nat) : Gs := (fun a x y => if a = t ∧ x = b ∧ y = c then v else g.1 a x y, g.2)
def uV (g : Gs) (t b : Nat) (v : Int32) : Gs := (g.1, fun a x => if a = t ∧ x = b then v else g.2 a x)
theorem uG_o {g : Gs} {t b c v a x y : Nat} (h : ¬ (a = t ∧ x = b ∧ y = c)) : (uG g t b c v).1 a x y = g.1 a x y := if_neg h
theorem uG_s {g : Gs} {t b c v : Nat} : (uG g t b c v).1 t b c = v := if_pos ⟨rfl, rfl, rfl⟩
theorem uV_o {g : Gs} {t b a x : Nat} {v : Int32} (h : ¬ (a = t ∧ x = b)) : (uV g t b v).2 a x = g.2 a x := if_neg h
theorem uV_s {g : Gs} {t b : Nat} {v : Int32} : (uV g t b v).2 t b = v := if_pos ⟨rfl, rfl⟩
/-- what is kept while a change is made, and what both stand for then -/
def FC (g0 : Gs) (σ1 σ : Wd) : Prop := (∀ c, c < 108 → (c < 29 ∨ 36 < c) → σ.1 c = σ1.1 c ∧ σ.2.1 c = σ1.2.1 c ∧ σ.2.2 c = σ1.2.2 c) ∧ (∀ w, w < gW g0 → gI σ 30 w = gI σ1 30 w ∧ gI σ 31 w = gI σ1 31 w ∧ gI σ 32 w = gI σ1 32 w ∧ gI σ 33 w = gI σ1 33 w) ∧ (∀ i, i < gO g0 → gI σ 34 i = gI σ1 34 i)
def Mid (T : Td) (g0 : Gs) (σ1 τ0 : Wd) (g : Gs) (σ τ : Wd) : Prop := FC g0 σ1 σ ∧ KM τ0 τ ∧ gI τ 0 43 = gI τ0 0 43 ∧ CR (tN T) g (σ.2.1 29) ∧ CA g 28 σ ∧ MR g (τ.1 26) ∧ Inv (tN T) (tF T) g ∧ gW g0 ≤ gW g ∧ gO g0 ≤ gO g
theorem FC.refl {g0 : Gs} {σ : Wd} : FC g0 σ σ := ⟨fun _ _ _ => ⟨rfl, rfl, rfl⟩, fun _ _ => ⟨rfl, rfl, rfl, rfl⟩, fun _ _ => rfl⟩
theorem FC.row {g0 : Gs} {σ1 σ : Wd} {k : Nat} {v : Int64} (h : FC g0 σ1 σ) : FC g0 σ1 (uL σ 29 k v) := by
  refine ⟨fun c hc hd => ⟨(h.1 c hc hd).1, ?_, (h.1 c hc hd).2.2⟩, h.2.1, h.2.2⟩
  have : c ≠ 29 := by omega
  show (if c = 29 then _ else σ.2.1 c) = _
  rw [if_neg this]
  exact (h.1 c hc hd).2.1
theorem row_uL {σ : Wd} {k : Nat} {v : Int64} : (uL σ 29 k v).2.1 29 = vp_updL (σ.2.1 29) k v := by unfold uL; exact rL_at
theorem row_uI {τ : Wd} {k : Nat} {v : Int32} : (uI τ 26 k v).1 26 = upd (τ.1 26) k v := by unfold uI; exact rI_at
/-- a change of one place on both sides -/
theorem Mid.up {T : Td} {g0 g g' : Gs} {σ1 τ0 σ τ : Wd} (h : Mid T g0 σ1 τ0 g σ τ) {k j : Nat} {v : Int64} {x : Int32} (h1 : crP (tN T) g' k v) (h2 : ∀ i x, i ≠ k → crP (tN T) g i x → crP (tN T) g' i x) (h3 : mrP g' j x) (h4 : ∀ i x, i ≠ j → mrP g i x → mrP g' i x) (h5 : Inv (tN T) (tF T) g') (h6 : gW g' = gW g) (h7 : gO g' = gO g) (hA : CA g 28 σ → CA g' 28 σ) : Mid T g0 σ1 τ0 g' (uL σ 29 k v) (uI τ 26 j x) := by
  obtain ⟨a, b, c, d, e, f, i, w, o⟩ := h
  exact ⟨a.row, KM.uI rfl (by decide) b, by rw [gI_uI, if_neg (by omega)]; exact c, by rw [row_uL]; exact CR_up d h1 h2, CA_eq (fun _ _ _ => rfl) (hA e), by rw [row_uI]; exact MR_up f h3 h4, h5, by rw [h6]; exact w, by rw [h7]; exact o⟩
