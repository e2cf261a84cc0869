/-! the text told: cells -/
def csL (fv : Nat → Nat) : Nat → Nat → List Int32
  | 0, _ => []
  | k + 1, i => pw 4 1667591276 0 0 ++ (ceL i ++ (dgN (fv i) ++ ([nI 59] ++ csL fv k (i + 1))))
theorem first_n (q : Int32) : ∃ fv : Nat → Nat, ∀ i, tdFirst q (nI i) = nI (fv i) ∧ fv i < 12 := by
  have h : ∀ i, ∃ v, tdFirst q (nI i) = nI v ∧ v < 12 := fun i => by
    obtain ⟨k, hk, e⟩ := rem255 (x := q >>> (nI i &&& 31)) (m := 12) (by decide) (by decide)
    exact ⟨k, e, hk⟩
  exact ⟨fun i => (h i).choose, fun i => (h i).choose_spec⟩
theorem TP.toldC {σ0 τ0 : Wd} {q : Int32} {fv : Nat → Nat} (hf : ∀ i, tdFirst q (nI i) = nI (fv i) ∧ fv i < 12) : ∀ (k i : Nat) (ts : List Int32) (σ τ : Wd), i + k ≤ 4 → ts.length + 13 * k + 60 ≤ 2000 → TP ts σ0 τ0 σ τ → ∃ σ' τ', M_told_C q k i σ = some σ' ∧ TP (ts ++ csL fv k i) σ0 τ0 σ' τ' := by
  intro k
  induction k with
  | zero =>
    intro i ts σ τ _ _ h
    exact ⟨σ, τ, rfl, by show TP (ts ++ []) _ _ _ _; rw [List.append_nil]; exact h⟩
  | succ k ih =>
    intro i ts σ τ hi ht h
    have dl := dg_l (v := fv i)
    have p4 := pw_l (m := 4) (a := 1667591276) (b := 0) (c := 0)
    obtain ⟨σa, τa, ea, ha⟩ := h.put (m := 4) (v2 := 1667591276) (v3 := 0) (v4 := 0) (v5 := 0) (v6 := 0) (by decide) (by omega)
    have ha : TP (ts ++ pw 4 1667591276 0 0) σ0 τ0 σa τa := ha
    obtain ⟨σb, τb, eb, hb⟩ := ha.cell (k := i) (by omega) (by simp only [List.length_append]; omega)
    have hb : TP (ts ++ pw 4 1667591276 0 0 ++ ceL i) σ0 τ0 σb τb := hb
    obtain ⟨σc, τc, ec, hc⟩ := hb.number (v := fv i) (by have := (hf i).2; omega) (by simp only [List.length_append, ce_l]; omega)
    obtain ⟨σd, τd, ed, hd⟩ := hc.sign (b := 59) (by decide) (by simp only [List.length_append, ce_l]; omega)
    obtain ⟨σe, τe, ee, he⟩ := ih (i + 1) _ σd τd (by omega) (by simp only [List.length_append, ce_l, sg_l]; omega) hd
    refine ⟨σe, τe, ?_, ?_⟩
    · show bnd1 (M_L_put σ (4 : Int32) (1667591276 : Int32) (0 : Int32) (0 : Int32) (0 : Int32) (0 : Int32)) _ = _
      rw [show M_L_put σ 4 1667591276 0 0 0 0 = _ from ea, bnd1_some, eb, bnd1_some, (hf i).1, ec, bnd1_some, show M_L_sign σc 59 = _ from ed, bnd1_some]
      exact ee
    · show TP (ts ++ (pw 4 1667591276 0 0 ++ (ceL i ++ (dgN (fv i) ++ ([nI 59] ++ csL fv k (i + 1)))))) _ _ _ _
      simp only [List.append_assoc] at he
      exact he
