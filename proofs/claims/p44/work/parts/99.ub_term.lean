/-! the text told: terms -/
def pw (m : Nat) (a b c : Int32) : List Int32 := (by4 a ++ by4 b ++ by4 c ++ by4 0 ++ by4 0).take m
def ceL (k : Nat) : List Int32 := [nI 32, nI 99, nI (97 + k), nI 32]
theorem pw_l {m : Nat} {a b c : Int32} : (pw m a b c).length ≤ m := by unfold pw; rw [List.length_take]; exact Nat.min_le_left _ _
theorem ce_l {k : Nat} : (ceL k).length = 4 := rfl
theorem dg_l {v : Nat} : (dgN v).length ≤ 4 := by
  unfold dgN
  split
  · show 1 ≤ 4; decide
  split
  · show 2 ≤ 4; decide
  split
  · show 3 ≤ 4; decide
  · show 4 ≤ 4; decide
theorem sg_l {x : Int32} : [x].length = 1 := rfl
/-- a term's bytes: its shape, its number, its cell -/
def tmL (u d k : Nat) : List Int32 := if u = 0 then [nI 32] ++ dgN d else if u = 1 then ceL k else if u = 2 then ceL k ++ pw 3 729295360 0 0 ++ dgN d else if u = 3 then pw 9 544746867 1952542064 721420288 ++ dgN d else if u = 4 then pw 5 540160047 671088640 0 ++ ceL k ++ [nI 45] ++ dgN d ++ [nI 41] else if u = 5 then ceL k ++ pw 10 707931503 1919510377 1848442880 ++ dgN d else if u = 6 then pw 7 544437345 1836067328 0 ++ dgN d ++ [nI 45] ++ ceL k else ceL k ++ pw 4 791882616 0 0
theorem TP.term {ts : List Int32} {σ0 τ0 σ τ : Wd} {v : Int32} {nc u d k : Nat} (h : TP ts σ0 τ0 σ τ) (ht : ts.length + 60 ≤ 2000) (eu : v &&& (7 : Int32) = nI u) (hu : u < 8) (ed : (v >>> ((3 : Int32) &&& 31)) &&& (3 : Int32) = nI d) (hd : d < 4) (ek : ((v >>> ((5 : Int32) &&& 31)) &&& (255 : Int32)) - ((v >>> ((5 : Int32) &&& 31)) &&& (255 : Int32)) / nI nc * nI nc = nI k) (hk : k < 20) : ∃ σ' τ', M_L_term σ v (nI nc) = some σ' ∧ TP (ts ++ tmL u d k) σ0 τ0 σ' τ' := by
  have cel : ∀ {ts : List Int32} {σ τ : Wd}, TP ts σ0 τ0 σ τ → ts.length + 30 ≤ 2000 → ∃ σ' τ', M_L_cell σ (nI k) = some σ' ∧ TP (ts ++ ceL k) σ0 τ0 σ' τ' := fun h h2 => h.cell hk h2
  have num : ∀ {ts : List Int32} {σ τ : Wd}, TP ts σ0 τ0 σ τ → ts.length + 24 ≤ 2000 → ∃ σ' τ', M_L_number σ (nI d) = some σ' ∧ TP (ts ++ dgN d) σ0 τ0 σ' τ' := fun h h2 => h.number (by omega) h2
  have put : ∀ {ts : List Int32} {σ τ : Wd} (m : Nat) (a b c : Int32), m ≤ 20 → TP ts σ0 τ0 σ τ → ts.length + 20 ≤ 2000 → ∃ σ' τ', M_L_put σ (nI m) a b c 0 0 = some σ' ∧ TP (ts ++ pw m a b c) σ0 τ0 σ' τ' := fun m a b c hm h h2 => h.put hm h2
  have sig : ∀ {ts : List Int32} {σ τ : Wd} (b : Nat), b < 128 → TP ts σ0 τ0 σ τ → ts.length + 20 ≤ 2000 → ∃ σ' τ', M_L_sign σ (nI b) = some σ' ∧ TP (ts ++ [nI b]) σ0 τ0 σ' τ' := fun b hb h h2 => h.sign hb h2
  have dl := dg_l (v := d)
  have p3 := pw_l (m := 3) (a := 729295360) (b := 0) (c := 0)
  have p9 := pw_l (m := 9) (a := 544746867) (b := 1952542064) (c := 721420288)
  have p5 := pw_l (m := 5) (a := 540160047) (b := 671088640) (c := 0)
  have p10 := pw_l (m := 10) (a := 707931503) (b := 1919510377) (c := 1848442880)
  have p7 := pw_l (m := 7) (a := 544437345) (b := 1836067328) (c := 0)
  unfold M_L_term
  rw [eu, ed, ek]
  rcases (show u = 0 ∨ u = 1 ∨ u = 2 ∨ u = 3 ∨ u = 4 ∨ u = 5 ∨ u = 6 ∨ u = 7 by omega) with rfl | rfl | rfl | rfl | rfl | rfl | rfl | rfl
  · obtain ⟨σa, τa, ea, ha⟩ := sig 32 (by decide) h (by omega)
    obtain ⟨σb, τb, eb, hb⟩ := num ha (by simp only [List.length_append, sg_l]; omega)
    refine ⟨σb, τb, ?_, by rw [List.append_assoc] at hb; exact hb⟩
    rw [if_pos (by decide), show M_L_sign σ 32 = _ from ea, bnd1_some, eb, bnd1_some]
  · obtain ⟨σa, τa, ea, ha⟩ := cel h (by omega)
    refine ⟨σa, τa, ?_, ha⟩
    rw [if_neg (by decide), if_pos (by decide), ea, bnd1_some]
  · obtain ⟨σa, τa, ea, ha⟩ := cel h (by omega)
    obtain ⟨σb, τb, eb, hb⟩ := put 3 729295360 0 0 (by decide) ha (by simp only [List.length_append, ce_l]; omega)
    obtain ⟨σc, τc, ec, hc⟩ := num hb (by simp only [List.length_append, ce_l]; omega)
    refine ⟨σc, τc, ?_, by rw [List.append_assoc, List.append_assoc, ← List.append_assoc (ceL k)] at hc; exact hc⟩
    rw [if_neg (by decide), if_neg (by decide), if_pos (by decide), ea, bnd1_some, show M_L_put σa 3 729295360 0 0 0 0 = _ from eb, bnd1_some, ec, bnd1_some]
  · obtain ⟨σb, τb, eb, hb⟩ := put 9 544746867 1952542064 721420288 (by decide) h (by omega)
    obtain ⟨σc, τc, ec, hc⟩ := num hb (by simp only [List.length_append]; omega)
    refine ⟨σc, τc, ?_, by rw [List.append_assoc] at hc; exact hc⟩
    rw [if_neg (by decide), if_neg (by decide), if_neg (by decide), if_pos (by decide), show M_L_put σ 9 544746867 1952542064 721420288 0 0 = _ from eb, bnd1_some, ec, bnd1_some]
  · obtain ⟨σa, τa, ea, ha⟩ := put 5 540160047 671088640 0 (by decide) h (by omega)
    obtain ⟨σb, τb, eb, hb⟩ := cel ha (by simp only [List.length_append]; omega)
    obtain ⟨σc, τc, ec, hc⟩ := sig 45 (by decide) hb (by simp only [List.length_append, ce_l]; omega)
    obtain ⟨σd, τd, ed', hd'⟩ := num hc (by simp only [List.length_append, ce_l, sg_l]; omega)
    obtain ⟨σe, τe, ee, he⟩ := sig 41 (by decide) hd' (by simp only [List.length_append, ce_l, sg_l]; omega)
    refine ⟨σe, τe, ?_, by simp only [List.append_assoc] at he; show TP (ts ++ (pw 5 540160047 671088640 0 ++ ceL k ++ [nI 45] ++ dgN d ++ [nI 41])) _ _ _ _; simp only [List.append_assoc]; exact he⟩
    rw [if_neg (by decide), if_neg (by decide), if_neg (by decide), if_neg (by decide), if_pos (by decide), show M_L_put σ 5 540160047 671088640 0 0 0 = _ from ea, bnd1_some, eb, bnd1_some, show M_L_sign σb 45 = _ from ec, bnd1_some, ed', bnd1_some, show M_L_sign σd 41 = _ from ee, bnd1_some]
  · obtain ⟨σa, τa, ea, ha⟩ := cel h (by omega)
    obtain ⟨σb, τb, eb, hb⟩ := put 10 707931503 1919510377 1848442880 (by decide) ha (by simp only [List.length_append, ce_l]; omega)
    obtain ⟨σc, τc, ec, hc⟩ := num hb (by simp only [List.length_append, ce_l]; omega)
    refine ⟨σc, τc, ?_, by rw [List.append_assoc, List.append_assoc, ← List.append_assoc (ceL k)] at hc; exact hc⟩
    rw [if_neg (by decide), if_neg (by decide), if_neg (by decide), if_neg (by decide), if_neg (by decide), if_pos (by decide), ea, bnd1_some, show M_L_put σa 10 707931503 1919510377 1848442880 0 0 = _ from eb, bnd1_some, ec, bnd1_some]
  · obtain ⟨σa, τa, ea, ha⟩ := put 7 544437345 1836067328 0 (by decide) h (by omega)
    obtain ⟨σb, τb, eb, hb⟩ := num ha (by simp only [List.length_append]; omega)
    obtain ⟨σc, τc, ec, hc⟩ := sig 45 (by decide) hb (by simp only [List.length_append]; omega)
    obtain ⟨σd, τd, ed', hd'⟩ := cel hc (by simp only [List.length_append, sg_l]; omega)
    refine ⟨σd, τd, ?_, by simp only [List.append_assoc] at hd'; show TP (ts ++ (pw 7 544437345 1836067328 0 ++ dgN d ++ [nI 45] ++ ceL k)) _ _ _ _; simp only [List.append_assoc]; exact hd'⟩
    rw [if_neg (by decide), if_neg (by decide), if_neg (by decide), if_neg (by decide), if_neg (by decide), if_neg (by decide), if_pos (by decide), show M_L_put σ 7 544437345 1836067328 0 0 0 = _ from ea, bnd1_some, eb, bnd1_some, show M_L_sign σb 45 = _ from ec, bnd1_some, ed', bnd1_some]
  · obtain ⟨σa, τa, ea, ha⟩ := cel h (by omega)
    obtain ⟨σb, τb, eb, hb⟩ := put 4 791882616 0 0 (by decide) ha (by simp only [List.length_append, ce_l]; omega)
    refine ⟨σb, τb, ?_, by rw [List.append_assoc] at hb; exact hb⟩
    rw [if_neg (by decide), if_neg (by decide), if_neg (by decide), if_neg (by decide), if_neg (by decide), if_neg (by decide), if_neg (by decide), ea, bnd1_some, show M_L_put σa 4 791882616 0 0 0 0 = _ from eb, bnd1_some]
