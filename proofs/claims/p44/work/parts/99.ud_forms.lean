/-! the text told: forms -/
/-- what a term's word says: shape, number, cell -/
theorem trm_n (v : Int32) {nc : Nat} (h1 : 1 ≤ nc) (h4 : nc ≤ 4) : ∃ x : Nat × Nat × Nat, (v &&& (7 : Int32) = nI x.1 ∧ x.1 < 8) ∧ ((v >>> ((3 : Int32) &&& 31)) &&& (3 : Int32) = nI x.2.1 ∧ x.2.1 < 4) ∧ (((v >>> ((5 : Int32) &&& 31)) &&& (255 : Int32)) - ((v >>> ((5 : Int32) &&& 31)) &&& (255 : Int32)) / nI nc * nI nc = nI x.2.2 ∧ x.2.2 < nc) := by
  obtain ⟨u, hu, eu⟩ := pk_andE v (m := 7) 3 rfl
  obtain ⟨d, hd, ed⟩ := pk_andE (v >>> ((3 : Int32) &&& 31)) (m := 3) 2 rfl
  obtain ⟨k, hk, ek⟩ := rem255 (x := v >>> ((5 : Int32) &&& 31)) (m := nc) h1 (by omega)
  exact ⟨(u, d, k), ⟨eu, by show u < 8; omega⟩, ⟨ed, by show d < 4; omega⟩, ⟨ek, hk⟩⟩
theorem TP.termN {ts : List Int32} {σ0 τ0 σ τ : Wd} {v : Int32} {nc : Nat} {x : Nat × Nat × Nat} (h : TP ts σ0 τ0 σ τ) (ht : ts.length + 60 ≤ 2000) (h4 : nc ≤ 4) (hx : (v &&& (7 : Int32) = nI x.1 ∧ x.1 < 8) ∧ ((v >>> ((3 : Int32) &&& 31)) &&& (3 : Int32) = nI x.2.1 ∧ x.2.1 < 4) ∧ (((v >>> ((5 : Int32) &&& 31)) &&& (255 : Int32)) - ((v >>> ((5 : Int32) &&& 31)) &&& (255 : Int32)) / nI nc * nI nc = nI x.2.2 ∧ x.2.2 < nc)) : ∃ σ' τ', M_L_term σ v (nI nc) = some σ' ∧ TP (ts ++ tmL x.1 x.2.1 x.2.2) σ0 τ0 σ' τ' := h.term ht hx.1.1 hx.1.2 hx.2.1.1 hx.2.1.2 hx.2.2.1 (by have := hx.2.2.2; omega)
theorem tm_l {u d k : Nat} : (tmL u d k).length ≤ 24 := by
  have dl := dg_l (v := d)
  have p3 := pw_l (m := 3) (a := 729295360) (b := 0) (c := 0)
  have p9 := pw_l (m := 9) (a := 544746867) (b := 1952542064) (c := 721420288)
  have p5 := pw_l (m := 5) (a := 540160047) (b := 671088640) (c := 0)
  have p10 := pw_l (m := 10) (a := 707931503) (b := 1919510377) (c := 1848442880)
  have p7 := pw_l (m := 7) (a := 544437345) (b := 1836067328) (c := 0)
  have p4 := pw_l (m := 4) (a := 791882616) (b := 0) (c := 0)
  unfold tmL
  split
  · simp only [List.length_append, sg_l]; omega
  split
  · rw [ce_l]; decide
  split
  · simp only [List.length_append, ce_l]; omega
  split
  · simp only [List.length_append]; omega
  split
  · simp only [List.length_append, ce_l, sg_l]; omega
  split
  · simp only [List.length_append, ce_l]; omega
  split
  · simp only [List.length_append, ce_l, sg_l]; omega
  · simp only [List.length_append, ce_l]; omega
