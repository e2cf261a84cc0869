/-! the text told: signs, numbers, names of cells -/
theorem by_sg : ∀ b : Fin 128, ((nI b.val <<< ((24 : Int32) &&& 31)) >>> ((24 : Int32) &&& 31)).toInt8.toInt32 = nI b.val := by decide +kernel
theorem sign_put (σ : Wd) (v : Int32) : M_L_sign σ v = M_L_put σ (nI 1) (v <<< ((24 : Int32) &&& 31)) 0 0 0 0 := rfl
theorem TP.sign {ts : List Int32} {σ0 τ0 σ τ : Wd} {b : Nat} (h : TP ts σ0 τ0 σ τ) (hb : b < 128) (ht : ts.length + 20 ≤ 2000) : ∃ σ' τ', M_L_sign σ (nI b) = some σ' ∧ TP (ts ++ [nI b]) σ0 τ0 σ' τ' := by
  obtain ⟨σ', τ', e, h'⟩ := h.put (m := 1) (v2 := nI b <<< ((24 : Int32) &&& 31)) (v3 := 0) (v4 := 0) (v5 := 0) (v6 := 0) (by decide) ht
  refine ⟨σ', τ', (sign_put _ _).trans e, ?_⟩
  have e1 : (by4 (nI b <<< ((24 : Int32) &&& 31)) ++ by4 0 ++ by4 0 ++ by4 0 ++ by4 0).take 1 = [nI b] := by
    show [((nI b <<< ((24 : Int32) &&& 31)) >>> (24 &&& 31)).toInt8.toInt32] = [nI b]
    rw [show ((nI b <<< ((24 : Int32) &&& 31)) >>> (24 &&& 31)).toInt8.toInt32 = nI b from by_sg ⟨b, hb⟩]
  rw [e1] at h'
  exact h'
/-- the digits of a number below 1024 -/
def dgN (v : Nat) : List Int32 := if v < 10 then [nI (48 + v % 10)] else if v < 100 then [nI (48 + v / 10 % 10), nI (48 + v % 10)] else if v < 1000 then [nI (48 + v / 100 % 10), nI (48 + v / 10 % 10), nI (48 + v % 10)] else [nI (48 + v / 1000 % 10), nI (48 + v / 100 % 10), nI (48 + v / 10 % 10), nI (48 + v % 10)]
theorem dg_e : ∀ v : Fin 1024, ((48 : Int32) + ((nI v.val / 1) - (nI v.val / 1) / (10 : Int32) * (10 : Int32)) = nI (48 + v.val % 10)) ∧ ((48 : Int32) + ((nI v.val / 10) - (nI v.val / 10) / (10 : Int32) * (10 : Int32)) = nI (48 + v.val / 10 % 10)) ∧ ((48 : Int32) + ((nI v.val / 100) - (nI v.val / 100) / (10 : Int32) * (10 : Int32)) = nI (48 + v.val / 100 % 10)) ∧ ((48 : Int32) + ((nI v.val / 1000) - (nI v.val / 1000) / (10 : Int32) * (10 : Int32)) = nI (48 + v.val / 1000 % 10)) ∧ ((nI v.val / (10 : Int32) < 1) ↔ v.val < 10) ∧ ((nI v.val / (10 : Int32) < 10) ↔ v.val < 100) ∧ ((nI v.val / (10 : Int32) < 100) ↔ v.val < 1000) ∧ (nI v.val / (10 : Int32) < 1000) := by decide +kernel
theorem num_st {ts : List Int32} {σ0 τ0 σ τ : Wd} {v : Nat} {v2 v3 : Int32} {d fu : Nat} (h : TP ts σ0 τ0 σ τ) (hd : d < 10) (ht : ts.length + 20 ≤ 2000) (h2 : ¬ v2 ≤ 0) (h0 : ¬ v2 = 0) (h3 : v2 / 10 = v3) (he : (48 : Int32) + ((nI v / v2) - (nI v / v2) / (10 : Int32) * (10 : Int32)) = nI (48 + d)) : ∃ σ' τ', TP (ts ++ [nI (48 + d)]) σ0 τ0 σ' τ' ∧ iter (fun s : Int32 × Wd => M_L_number_L18 (nI v) s.1 s.2) (fu + 1) (v2, σ) = iter (fun s : Int32 × Wd => M_L_number_L18 (nI v) s.1 s.2) fu (v3, σ') := by
  obtain ⟨σ', τ', e, h'⟩ := h.sign (b := 48 + d) (by omega) ht
  refine ⟨σ', τ', h', it_s ?_⟩
  show M_L_number_L18 (nI v) v2 σ = _
  unfold M_L_number_L18
  rw [if_neg h2, chk_pos h0, chk_pos (by decide), he, e, bnd1_some, chk_pos (by decide), lt_eq, h3]
theorem num_x {σ : Wd} {v : Nat} {fu : Nat} : iter (fun s : Int32 × Wd => M_L_number_L18 (nI v) s.1 s.2) (fu + 1) ((0 : Int32), σ) = some σ := it_x (by
  show M_L_number_L18 (nI v) 0 σ = _
  unfold M_L_number_L18
  rw [if_pos (by decide)])
theorem TP.number {ts : List Int32} {σ0 τ0 σ τ : Wd} {v : Nat} (h : TP ts σ0 τ0 σ τ) (hv : v < 1024) (ht : ts.length + 24 ≤ 2000) : ∃ σ' τ', M_L_number σ (nI v) = some σ' ∧ TP (ts ++ dgN v) σ0 τ0 σ' τ' := by
  obtain ⟨q1, q2, q3, q4, c1, c2, c3, c4⟩ := dg_e ⟨v, hv⟩
  have q1 : (48 : Int32) + ((nI v / 1) - (nI v / 1) / (10 : Int32) * (10 : Int32)) = nI (48 + v % 10) := q1
  have q2 : (48 : Int32) + ((nI v / 10) - (nI v / 10) / (10 : Int32) * (10 : Int32)) = nI (48 + v / 10 % 10) := q2
  have q3 : (48 : Int32) + ((nI v / 100) - (nI v / 100) / (10 : Int32) * (10 : Int32)) = nI (48 + v / 100 % 10) := q3
  have q4 : (48 : Int32) + ((nI v / 1000) - (nI v / 1000) / (10 : Int32) * (10 : Int32)) = nI (48 + v / 1000 % 10) := q4
  obtain ⟨n, hn⟩ : ∃ n, FU = n + 1 + 1 + 1 + 1 + 1 := ⟨999995, by unfold FU; omega⟩
  have l2s : ∀ {w w' : Int32} {m : Nat}, ¬ nI v / 10 < w → w * 10 = w' → iter (fun s : Int32 => M_L_number_L2 σ (nI v) s) (m + 1) w = iter (fun s : Int32 => M_L_number_L2 σ (nI v) s) m w' := fun {w w' m} h1 h2 => it_s (by unfold M_L_number_L2; rw [chk_pos (by decide), if_neg h1, lt_eq, h2])
  have l2x : ∀ {w : Int32} {m : Nat}, nI v / 10 < w → iter (fun s : Int32 => M_L_number_L2 σ (nI v) s) (m + 1) w = some w := fun {w m} h1 => it_x (by unfold M_L_number_L2; rw [chk_pos (by decide), if_pos h1])
  have fin : ∀ {w : Int32} {σ' : Wd}, iter (fun s : Int32 => M_L_number_L2 σ (nI v) s) FU 1 = some w → iter (fun s : Int32 × Wd => M_L_number_L18 (nI v) s.1 s.2) FU (w, σ) = some σ' → M_L_number σ (nI v) = some σ' := fun {w σ'} e1 e2 => by
    unfold M_L_number
    rw [e1, bnd1_some]
    show bnd1 (iter (fun s : Int32 × Wd => M_L_number_L18 (nI v) s.1 s.2) FU (w, σ)) (un1 fun sx_18 => some sx_18) = _
    rw [e2, bnd1_some]
    rfl
  have l1 : ∀ (a : List Int32) (x : Int32), (a ++ [x]).length = a.length + 1 := fun a x => by rw [List.length_append]; rfl
  unfold dgN
  by_cases w1 : v < 10
  · obtain ⟨σa, τa, ha, ea⟩ := num_st (fu := n + 1 + 1 + 1 + 1) (v2 := 1) (v3 := 0) h (Nat.mod_lt v (by decide)) (by omega) (by decide) (by decide) (by decide) q1
    refine ⟨σa, τa, fin (w := 1) (by rw [hn]; exact l2x (c1.mpr w1)) (by rw [hn, ea]; exact num_x), ?_⟩
    rw [if_pos w1]; exact ha
  rw [if_neg w1]
  by_cases w2 : v < 100
  · obtain ⟨σa, τa, ha, ea⟩ := num_st (fu := n + 1 + 1 + 1 + 1) (v2 := 10) (v3 := 1) h (Nat.mod_lt (v / 10) (by decide)) (by omega) (by decide) (by decide) (by decide) q2
    obtain ⟨σb, τb, hb, eb⟩ := num_st (fu := n + 1 + 1 + 1) (v2 := 1) (v3 := 0) ha (Nat.mod_lt v (by decide)) (by rw [l1]; omega) (by decide) (by decide) (by decide) q1
    refine ⟨σb, τb, fin (w := 10) (by rw [hn, l2s (fun z => w1 (c1.mp z)) (by decide : (1 : Int32) * 10 = 10)]; exact l2x (c2.mpr w2)) (by rw [hn, ea, eb]; exact num_x), ?_⟩
    rw [if_pos w2]
    rw [List.append_assoc] at hb
    exact hb
  rw [if_neg w2]
  by_cases w3 : v < 1000
  · obtain ⟨σa, τa, ha, ea⟩ := num_st (fu := n + 1 + 1 + 1 + 1) (v2 := 100) (v3 := 10) h (Nat.mod_lt (v / 100) (by decide)) (by omega) (by decide) (by decide) (by decide) q3
    obtain ⟨σb, τb, hb, eb⟩ := num_st (fu := n + 1 + 1 + 1) (v2 := 10) (v3 := 1) ha (Nat.mod_lt (v / 10) (by decide)) (by rw [l1]; omega) (by decide) (by decide) (by decide) q2
    obtain ⟨σc, τc, hc, ec⟩ := num_st (fu := n + 1 + 1) (v2 := 1) (v3 := 0) hb (Nat.mod_lt v (by decide)) (by rw [l1, l1]; omega) (by decide) (by decide) (by decide) q1
    refine ⟨σc, τc, fin (w := 100) (by rw [hn, l2s (fun z => w1 (c1.mp z)) (by decide : (1 : Int32) * 10 = 10), l2s (fun z => w2 (c2.mp z)) (by decide : (10 : Int32) * 10 = 100)]; exact l2x (c3.mpr w3)) (by rw [hn, ea, eb, ec]; exact num_x), ?_⟩
    rw [if_pos w3]
    rw [List.append_assoc, List.append_assoc] at hc
    exact hc
  rw [if_neg w3]
  obtain ⟨σa, τa, ha, ea⟩ := num_st (fu := n + 1 + 1 + 1 + 1) (v2 := 1000) (v3 := 100) h (Nat.mod_lt (v / 1000) (by decide)) (by omega) (by decide) (by decide) (by decide) q4
  obtain ⟨σb, τb, hb, eb⟩ := num_st (fu := n + 1 + 1 + 1) (v2 := 100) (v3 := 10) ha (Nat.mod_lt (v / 100) (by decide)) (by rw [l1]; omega) (by decide) (by decide) (by decide) q3
  obtain ⟨σc, τc, hc, ec⟩ := num_st (fu := n + 1 + 1) (v2 := 10) (v3 := 1) hb (Nat.mod_lt (v / 10) (by decide)) (by rw [l1, l1]; omega) (by decide) (by decide) (by decide) q2
  obtain ⟨σd, τd, hd, ed⟩ := num_st (fu := n + 1) (v2 := 1) (v3 := 0) hc (Nat.mod_lt v (by decide)) (by rw [l1, l1, l1]; omega) (by decide) (by decide) (by decide) q1
  refine ⟨σd, τd, fin (w := 1000) (by rw [hn, l2s (fun z => w1 (c1.mp z)) (by decide : (1 : Int32) * 10 = 10), l2s (fun z => w2 (c2.mp z)) (by decide : (10 : Int32) * 10 = 100), l2s (fun z => w3 (c3.mp z)) (by decide : (100 : Int32) * 10 = 1000)]; exact l2x c4) (by rw [hn, ea, eb, ec, ed]; exact num_x), ?_⟩
  rw [List.append_assoc, List.append_assoc, List.append_assoc] at hd
  exact hd
/-- the name of a cell among blanks -/
theorem TP.cell {ts : List Int32} {σ0 τ0 σ τ : Wd} {k : Nat} (h : TP ts σ0 τ0 σ τ) (hk : k < 20) (ht : ts.length + 30 ≤ 2000) : ∃ σ' τ', M_L_cell σ (nI k) = some σ' ∧ TP (ts ++ [nI 32, nI 99, nI (97 + k), nI 32]) σ0 τ0 σ' τ' := by
  have l1 : ∀ (a : List Int32) (x : Int32), (a ++ [x]).length = a.length + 1 := fun a x => by rw [List.length_append]; rfl
  obtain ⟨σa, τa, ea, ha⟩ := h.sign (b := 32) (by decide) (by omega)
  obtain ⟨σb, τb, eb, hb⟩ := ha.sign (b := 99) (by decide) (by rw [l1]; omega)
  obtain ⟨σc, τc, ec, hc⟩ := hb.sign (b := 97 + k) (by omega) (by rw [l1, l1]; omega)
  obtain ⟨σd, τd, ed, hd⟩ := hc.sign (b := 32) (by decide) (by rw [l1, l1, l1]; omega)
  refine ⟨σd, τd, ?_, by rw [List.append_assoc, List.append_assoc, List.append_assoc] at hd; exact hd⟩
  have e97 : (97 : Int32) + nI k = nI (97 + k) := nI_add 97 k
  unfold M_L_cell
  rw [show M_L_sign σ 32 = _ from ea, bnd1_some, show M_L_sign σa 99 = _ from eb, bnd1_some, e97, ec, bnd1_some, show M_L_sign σc 32 = _ from ed, bnd1_some]
