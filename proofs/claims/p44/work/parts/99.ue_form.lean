/-! the text told: a form -/
theorem TP.words {ts : List Int32} {σ0 τ0 σ τ : Wd} (h : TP ts σ0 τ0 σ τ) (m : Nat) (a b c : Int32) (hm : m ≤ 20) (ht : ts.length + 20 ≤ 2000) : ∃ σ' τ', M_L_put σ (nI m) a b c 0 0 = some σ' ∧ TP (ts ++ pw m a b c) σ0 τ0 σ' τ' := h.put hm ht
theorem TP.cellL {ts : List Int32} {σ0 τ0 σ τ : Wd} {k : Nat} (h : TP ts σ0 τ0 σ τ) (hk : k < 20) (ht : ts.length + 30 ≤ 2000) : ∃ σ' τ', M_L_cell σ (nI k) = some σ' ∧ TP (ts ++ ceL k) σ0 τ0 σ' τ' := h.cell hk ht
def tmX (x : Nat × Nat × Nat) : List Int32 := tmL x.1 x.2.1 x.2.2
/-- a form's bytes up to its second half -/
def foL (f sg tb : Nat) (xa xb xc : Nat × Nat × Nat) : List Int32 := pw 6 1718579821 543555584 0 ++ [nI (97 + f)] ++ pw 6 544105829 1685258240 0 ++ tmX xa ++ [nI sg] ++ tmX xb ++ pw 5 544433524 1929379840 0 ++ ceL tb ++ tmX xc
theorem fo_l {f sg tb : Nat} {xa xb xc : Nat × Nat × Nat} : (foL f sg tb xa xb xc).length ≤ 95 := by
  have a1 := tm_l (u := xa.1) (d := xa.2.1) (k := xa.2.2)
  have a2 := tm_l (u := xb.1) (d := xb.2.1) (k := xb.2.2)
  have a3 := tm_l (u := xc.1) (d := xc.2.1) (k := xc.2.2)
  have p1 := pw_l (m := 6) (a := 1718579821) (b := 543555584) (c := 0)
  have p2 := pw_l (m := 6) (a := 544105829) (b := 1685258240) (c := 0)
  have p3 := pw_l (m := 5) (a := 544433524) (b := 1929379840) (c := 0)
  unfold foL tmX
  simp only [List.length_append, ce_l, sg_l]
  omega
