/-! the law whole, out of a relation of the two worlds that every call keeps -/
def Sp_0 (Rel : Wd → Wd → Prop) : Prop := ∀ (σ τ : Wd), Rel σ τ → ∀ a b c d e : Int32, ∃ (r : Int32) (σ' : Wd) (τ' : Wd), M_X8_feed σ a b c d e = some (r, σ') ∧ M_X9_feed τ a b c d e = some (r, τ') ∧ Rel σ' τ'
def Sp_1 (Rel : Wd → Wd → Prop) : Prop := ∀ (σ τ : Wd), Rel σ τ → ∀ a : Int32, ∃ (r : Int32) (σ' : Wd) (τ' : Wd), M_X8_back σ a = some (r, σ') ∧ M_X9_back τ a = some (r, τ') ∧ Rel σ' τ'
def Sp_2 (Rel : Wd → Wd → Prop) : Prop := ∀ (σ τ : Wd), Rel σ τ → ∃ (r : Int32) (σ' : Wd) (τ' : Wd), M_X8_read σ = some (r, σ') ∧ M_X9_read τ = some (r, τ') ∧ Rel σ' τ'
def Sp_3 (Rel : Wd → Wd → Prop) : Prop := ∀ (σ τ : Wd), Rel σ τ → ∃ (r : Int32), M_X8_place σ = some r ∧ M_X9_place τ = some r ∧ Rel σ τ
def Sp_4 (Rel : Wd → Wd → Prop) : Prop := ∀ (σ τ : Wd), Rel σ τ → ∀ a b c d : Int32, ∃ (r : Int32) (σ' : Wd) (τ' : Wd), M_X8_make σ a b c d = some (r, σ') ∧ M_X9_make τ a b c d = some (r, τ') ∧ Rel σ' τ'
def Sp_5 (Rel : Wd → Wd → Prop) : Prop := ∀ (σ τ : Wd), Rel σ τ → ∀ a b c : Int32, ∃ (r : Int32) (σ' : Wd) (τ' : Wd), M_X8_ask σ a b c = some (r, σ') ∧ M_X9_ask τ a b c = some (r, τ') ∧ Rel σ' τ'
def Sp_6 (Rel : Wd → Wd → Prop) : Prop := ∀ (σ τ : Wd), Rel σ τ → ∀ a : Int32, ∃ (r : Int32), M_X8_got σ a = some r ∧ M_X9_got τ a = some r ∧ Rel σ τ
def Sp_7 (Rel : Wd → Wd → Prop) : Prop := ∀ (σ τ : Wd), Rel σ τ → ∀ a b : Int32, ∃ (r : Int32) (σ' : Wd) (τ' : Wd), M_X8_promise σ a b = some (r, σ') ∧ M_X9_promise τ a b = some (r, τ') ∧ Rel σ' τ'
def Sp_8 (Rel : Wd → Wd → Prop) : Prop := ∀ (σ τ : Wd), Rel σ τ → ∀ a b : Int32, ∃ (r : Int32) (σ' : Wd) (τ' : Wd), M_X8_meet σ a b = some (r, σ') ∧ M_X9_meet τ a b = some (r, τ') ∧ Rel σ' τ'
def Sp_9 (Rel : Wd → Wd → Prop) : Prop := ∀ (σ τ : Wd), Rel σ τ → ∀ a : Int32, ∃ (r : Int32) (σ' : Wd) (τ' : Wd), M_X8_lead σ a = some (r, σ') ∧ M_X9_lead τ a = some (r, τ') ∧ Rel σ' τ'
def Sp_10 (Rel : Wd → Wd → Prop) : Prop := ∀ (σ τ : Wd), Rel σ τ → ∀ a : Int32, ∃ (r : Int32) (σ' : Wd) (τ' : Wd), M_X8_chance σ a = some (r, σ') ∧ M_X9_chance τ a = some (r, τ') ∧ Rel σ' τ'
def Sp_11 (Rel : Wd → Wd → Prop) : Prop := ∀ (σ τ : Wd), Rel σ τ → ∃ (r : Int32) (σ' : Wd) (τ' : Wd), M_X8_undo σ = some (r, σ') ∧ M_X9_undo τ = some (r, τ') ∧ Rel σ' τ'
def Sp_12 (Rel : Wd → Wd → Prop) : Prop := ∀ (σ τ : Wd), Rel σ τ → ∀ a b c : Int32, ∃ (r : Int32) (σ' : Wd) (τ' : Wd), M_X8_cell σ a b (bI c) = some (r, σ') ∧ M_X9_cell τ a b (bI c) = some (r, τ') ∧ Rel σ' τ'
def Sp_13 (Rel : Wd → Wd → Prop) : Prop := ∀ (σ τ : Wd), Rel σ τ → ∀ a b : Int32, ∃ (r : Int32) (σ' : Wd) (τ' : Wd), M_X8_log σ a b = some (r, σ') ∧ M_X9_log τ a b = some (r, τ') ∧ Rel σ' τ'
def Sp_14 (Rel : Wd → Wd → Prop) : Prop := ∀ (σ τ : Wd), Rel σ τ → ∀ a b : Int32, ∃ (r : Int32) (σ' : Wd) (τ' : Wd), M_X8_outcome σ a b = some (r, σ') ∧ M_X9_outcome τ a b = some (r, τ') ∧ Rel σ' τ'
def Sp_15 (Rel : Wd → Wd → Prop) : Prop := ∀ (σ τ : Wd), Rel σ τ → ∀ a b : Int32, ∃ (r : Int32) (τ' : Wd), M_X8_write σ a b = some r ∧ M_X9_write τ a b = some (r, τ') ∧ Rel σ τ'
def Sp_16 (Rel : Wd → Wd → Prop) : Prop := ∀ (σ τ : Wd), Rel σ τ → ∀ a : Int32, ∃ (r : Int32), M_X8_with σ a = some r ∧ M_X9_with τ a = some r ∧ Rel σ τ
def Sp_17 (Rel : Wd → Wd → Prop) : Prop := ∀ (σ τ : Wd), Rel σ τ → ∀ a b : Int32, ∃ (r : Int32) (σ' : Wd) (τ' : Wd), M_X8_copy σ a b = some (r, σ') ∧ M_X9_copy τ a b = some (r, τ') ∧ Rel σ' τ'
def Sp_18 (Rel : Wd → Wd → Prop) : Prop := ∀ (σ τ : Wd), Rel σ τ → ∀ a b : Int32, ∃ (r : Int32) (τ' : Wd), M_X8_vector σ a b = some r ∧ M_X9_vector τ a b = some (r, τ') ∧ Rel σ τ'
def Sp_19 (Rel : Wd → Wd → Prop) : Prop := ∀ (σ τ : Wd), Rel σ τ → ∀ a b : Int32, ∃ (r : Int32), M_X8_session σ a b = some r ∧ M_X9_session τ a b = some r ∧ Rel σ τ
def Sp_20 (Rel : Wd → Wd → Prop) : Prop := ∀ (σ τ : Wd), Rel σ τ → ∀ a b c : Int32, ∃ (r : Int32), M_X8_of σ a b (bI c) = some r ∧ M_X9_of τ a b (bI c) = some r ∧ Rel σ τ
def Sp_21 (Rel : Wd → Wd → Prop) : Prop := ∀ (σ τ : Wd), Rel σ τ → ∀ a : Int32, ∃ (r : Int32), M_X8_shut σ a = some r ∧ M_X9_shut τ a = some r ∧ Rel σ τ
def Sp_22 (Rel : Wd → Wd → Prop) : Prop := ∀ (σ τ : Wd), Rel σ τ → ∀ a b : Int32, ∃ (r : Int32) (τ' : Wd), M_X8_lacks σ a b = some r ∧ M_X9_lacks τ a b = some (r, τ') ∧ Rel σ τ'
def Sp_23 (Rel : Wd → Wd → Prop) : Prop := ∀ (σ τ : Wd), Rel σ τ → ∀ a b : Int32, ∃ (r : Int32) (σ' : Wd) (τ' : Wd), M_X8_would σ a b = some (r, σ') ∧ M_X9_would τ a b = some (r, τ') ∧ Rel σ' τ'
def Sp_24 (Rel : Wd → Wd → Prop) : Prop := ∀ (σ τ : Wd), Rel σ τ → ∀ a b : Int32, ∃ (r : Int32) (σ' : Wd) (τ' : Wd), M_X8_differ σ a b = some (r, σ') ∧ M_X9_differ τ a b = some (r, τ') ∧ Rel σ' τ'
def Sp_25 (Rel : Wd → Wd → Prop) : Prop := ∀ (σ τ : Wd), Rel σ τ → ∀ a b : Int32, ∃ (r : Int32) (τ' : Wd), M_X8_alike σ a b = some r ∧ M_X9_alike τ a b = some (r, τ') ∧ Rel σ τ'
def Sp_26 (Rel : Wd → Wd → Prop) : Prop := ∀ (σ τ : Wd), Rel σ τ → ∀ a b c : Int32, ∃ (r : Int32) (σ' : Wd) (τ' : Wd), M_X8_hangs σ a b c = some (r, σ') ∧ M_X9_hangs τ a b c = some (r, τ') ∧ Rel σ' τ'
def Sp_27 (Rel : Wd → Wd → Prop) : Prop := ∀ (σ τ : Wd), Rel σ τ → ∀ a b c : Int32, ∃ (r : Int32) (σ' : Wd) (τ' : Wd), M_X8_behind σ a b c = some (r, σ') ∧ M_X9_behind τ a b c = some (r, τ') ∧ Rel σ' τ'
def Sp_28 (Rel : Wd → Wd → Prop) : Prop := ∀ (σ τ : Wd), Rel σ τ → ∀ a b : Int32, ∃ (r : Int32) (σ' : Wd) (τ' : Wd), M_X8_fork σ a b = some (r, σ') ∧ M_X9_fork τ a b = some (r, τ') ∧ Rel σ' τ'
def Sp_29 (Rel : Wd → Wd → Prop) : Prop := ∀ (σ τ : Wd), Rel σ τ → ∀ a b : Int32, ∃ (r : Int32) (σ' : Wd) (τ' : Wd), M_X8_key σ a b = some (r, σ') ∧ M_X9_key τ a b = some (r, τ') ∧ Rel σ' τ'
def Sp_30 (Rel : Wd → Wd → Prop) : Prop := ∀ (σ τ : Wd), Rel σ τ → ∀ a : Int32, ∃ (r : Int32) (τ' : Wd), M_X8_share σ a = some r ∧ M_X9_share τ a = some (r, τ') ∧ Rel σ τ'
def Sp_31 (Rel : Wd → Wd → Prop) : Prop := ∀ (σ τ : Wd), Rel σ τ → ∀ a b : Int32, ∃ (r : Int32) (σ' : Wd) (τ' : Wd), M_X8_setter σ a b = some (r, σ') ∧ M_X9_setter τ a b = some (r, τ') ∧ Rel σ' τ'
def Sp_32 (Rel : Wd → Wd → Prop) : Prop := ∀ (σ τ : Wd), Rel σ τ → ∀ a b c : Int32, ∃ (r : Int32) (σ' : Wd) (τ' : Wd), M_X8_ahead σ a b c = some (r, σ') ∧ M_X9_ahead τ a b c = some (r, τ') ∧ Rel σ' τ'
def Sp_33 (Rel : Wd → Wd → Prop) : Prop := ∀ (σ τ : Wd), Rel σ τ → ∀ a b : Int32, ∃ (r : Int32) (τ' : Wd), M_X8_may σ a (bI b) = some r ∧ M_X9_may τ a (bI b) = some (r, τ') ∧ Rel σ τ'
def Sp_34 (Rel : Wd → Wd → Prop) : Prop := ∀ (σ τ : Wd), Rel σ τ → ∀ a : Int32, ∃ (r : Int32) (τ' : Wd), M_X8_plan σ a = some r ∧ M_X9_plan τ a = some (r, τ') ∧ Rel σ τ'
def Sp_35 (Rel : Wd → Wd → Prop) : Prop := ∀ (σ τ : Wd), Rel σ τ → ∀ a : Int32, ∃ (r : Int32) (σ' : Wd) (τ' : Wd), M_X8_clash σ a = some (r, σ') ∧ M_X9_clash τ a = some (r, τ') ∧ Rel σ' τ'
def Sp_36 (Rel : Wd → Wd → Prop) : Prop := ∀ (σ τ : Wd), Rel σ τ → ∃ (r : Int32) (σ' : Wd) (τ' : Wd), M_X8_soon σ = some (r, σ') ∧ M_X9_soon τ = some (r, τ') ∧ Rel σ' τ'
def Sp_37 (Rel : Wd → Wd → Prop) : Prop := ∀ (σ τ : Wd), Rel σ τ → ∀ a b : Int32, ∃ (r : Int32) (σ' : Wd) (τ' : Wd), M_X8_year σ a b = some (r, σ') ∧ M_X9_year τ a b = some (r, τ') ∧ Rel σ' τ'
def Sp_38 (Rel : Wd → Wd → Prop) : Prop := ∀ (σ τ : Wd), Rel σ τ → ∀ a : Int32, ∃ (r : Int32) (σ' : Wd) (τ' : Wd), M_X8_hold σ a = some (r, σ') ∧ M_X9_hold τ a = some (r, τ') ∧ Rel σ' τ'
def Sp_39 (Rel : Wd → Wd → Prop) : Prop := ∀ (σ τ : Wd), Rel σ τ → ∀ a : Int32, ∃ (r : Int32) (σ' : Wd) (τ' : Wd), M_X8_restore σ a = some (r, σ') ∧ M_X9_restore τ a = some (r, τ') ∧ Rel σ' τ'
def Sp_40 (Rel : Wd → Wd → Prop) : Prop := ∀ (σ τ : Wd), Rel σ τ → ∀ a : Int32, ∃ (r : Int32) (σ' : Wd) (τ' : Wd), M_X8_count σ a = some (r, σ') ∧ M_X9_count τ a = some (r, τ') ∧ Rel σ' τ'
def Steps (Rel : Wd → Wd → Prop) : Prop := Sp_0 Rel ∧ Sp_1 Rel ∧ Sp_2 Rel ∧ Sp_3 Rel ∧ Sp_4 Rel ∧ Sp_5 Rel ∧ Sp_6 Rel ∧ Sp_7 Rel ∧ Sp_8 Rel ∧ Sp_9 Rel ∧ Sp_10 Rel ∧ Sp_11 Rel ∧ Sp_12 Rel ∧ Sp_13 Rel ∧ Sp_14 Rel ∧ Sp_15 Rel ∧ Sp_16 Rel ∧ Sp_17 Rel ∧ Sp_18 Rel ∧ Sp_19 Rel ∧ Sp_20 Rel ∧ Sp_21 Rel ∧ Sp_22 Rel ∧ Sp_23 Rel ∧ Sp_24 Rel ∧ Sp_25 Rel ∧ Sp_26 Rel ∧ Sp_27 Rel ∧ Sp_28 Rel ∧ Sp_29 Rel ∧ Sp_30 Rel ∧ Sp_31 Rel ∧ Sp_32 Rel ∧ Sp_33 Rel ∧ Sp_34 Rel ∧ Sp_35 Rel ∧ Sp_36 Rel ∧ Sp_37 Rel ∧ Sp_38 Rel ∧ Sp_39 Rel ∧ Sp_40 Rel
set_option maxHeartbeats 4000000 in
theorem law_case {K : Kt} {V8 : Ct_V} {V9 : Vt} {b LL ce sl i j : Nat} {xs : Nat → Int32} {σ τ : Wd} {Rel : Wd → Wd → Prop} (C : Lx K V8 V9 b LL xs) (hS : Steps Rel) (hi : i + 6 ≤ LL) (hL : LL ≤ 3072) (hce : ce ≤ 600000) (hsl : sl ≤ 7302250) (hj : j < 64) (hR : Rel σ τ) (hk : ∀ σ' τ', Rel σ' τ' → Gw K V8 V9 σ' τ' ce sl 1523 [(0, .ref b), (1, .ref (zA (Zc V8) 0)), (2, .ref (zA (Zm V9) 0)), (3, .int (nI i))] []) : Gw K V8 V9 σ τ ce sl 33 [(0, .ref b), (1, .ref (zA (Zc V8) 0)), (2, .ref (zA (Zm V9) 0)), (3, .int (nI i))] [.int (nI j)] := by
  obtain ⟨p0, p1, p2, p3, p4, p5, p6, p7, p8, p9, p10, p11, p12, p13, p14, p15, p16, p17, p18, p19, p20, p21, p22, p23, p24, p25, p26, p27, p28, p29, p30, p31, p32, p33, p34, p35, p36, p37, p38, p39, p40⟩ := hS
  by_cases h41 : j < 41
  · rcases (show j = 0 ∨ j = 1 ∨ j = 2 ∨ j = 3 ∨ j = 4 ∨ j = 5 ∨ j = 6 ∨ j = 7 ∨ j = 8 ∨ j = 9 ∨ j = 10 ∨ j = 11 ∨ j = 12 ∨ j = 13 ∨ j = 14 ∨ j = 15 ∨ j = 16 ∨ j = 17 ∨ j = 18 ∨ j = 19 ∨ j = 20 ∨ j = 21 ∨ j = 22 ∨ j = 23 ∨ j = 24 ∨ j = 25 ∨ j = 26 ∨ j = 27 ∨ j = 28 ∨ j = 29 ∨ j = 30 ∨ j = 31 ∨ j = 32 ∨ j = 33 ∨ j = 34 ∨ j = 35 ∨ j = 36 ∨ j = 37 ∨ j = 38 ∨ j = 39 ∨ j = 40 by omega) with rfl | rfl | rfl | rfl | rfl | rfl | rfl | rfl | rfl | rfl | rfl | rfl | rfl | rfl | rfl | rfl | rfl | rfl | rfl | rfl | rfl | rfl | rfl | rfl | rfl | rfl | rfl | rfl | rfl | rfl | rfl | rfl | rfl | rfl | rfl | rfl | rfl | rfl | rfl | rfl | rfl
    · obtain ⟨r, σ', τ', h8, h9, hR'⟩ := p0 σ τ hR (xs (i + 1)) (xs (i + 2)) (xs (i + 3)) (xs (i + 4)) (xs (i + 5))
      exact l_tswIn C 33 212 (0 : Int32) rfl dL_law_33 (by decide) (by decide) rfl (by decide) (lc_0 C hi hL hce hsl h8 h9 (hk _ _ hR'))
    · obtain ⟨r, σ', τ', h8, h9, hR'⟩ := p1 σ τ hR (xs (i + 1))
      exact l_tswIn C 33 275 (1 : Int32) rfl dL_law_33 (by decide) (by decide) rfl (by decide) (lc_1 C hi hL hce hsl h8 h9 (hk _ _ hR'))
    · obtain ⟨r, σ', τ', h8, h9, hR'⟩ := p2 σ τ hR
      exact l_tswIn C 33 298 (2 : Int32) rfl dL_law_33 (by decide) (by decide) rfl (by decide) (lc_2 C hi hL hce hsl h8 h9 (hk _ _ hR'))
    · obtain ⟨r, h8, h9, hR'⟩ := p3 σ τ hR
      exact l_tswIn C 33 311 (3 : Int32) rfl dL_law_33 (by decide) (by decide) rfl (by decide) (lc_3 C hi hL hce hsl h8 h9 (hk _ _ hR'))
    · obtain ⟨r, σ', τ', h8, h9, hR'⟩ := p4 σ τ hR (xs (i + 1)) (xs (i + 2)) (xs (i + 3)) (xs (i + 4))
      exact l_tswIn C 33 324 (4 : Int32) rfl dL_law_33 (by decide) (by decide) rfl (by decide) (lc_4 C hi hL hce hsl h8 h9 (hk _ _ hR'))
    · obtain ⟨r, σ', τ', h8, h9, hR'⟩ := p5 σ τ hR (xs (i + 1)) (xs (i + 2)) (xs (i + 3))
      exact l_tswIn C 33 377 (5 : Int32) rfl dL_law_33 (by decide) (by decide) rfl (by decide) (lc_5 C hi hL hce hsl h8 h9 (hk _ _ hR'))
    · obtain ⟨r, h8, h9, hR'⟩ := p6 σ τ hR (xs (i + 1))
      exact l_tswIn C 33 420 (6 : Int32) rfl dL_law_33 (by decide) (by decide) rfl (by decide) (lc_6 C hi hL hce hsl h8 h9 (hk _ _ hR'))
    · obtain ⟨r, σ', τ', h8, h9, hR'⟩ := p7 σ τ hR (xs (i + 1)) (xs (i + 2))
      exact l_tswIn C 33 443 (7 : Int32) rfl dL_law_33 (by decide) (by decide) rfl (by decide) (lc_7 C hi hL hce hsl h8 h9 (hk _ _ hR'))
    · obtain ⟨r, σ', τ', h8, h9, hR'⟩ := p8 σ τ hR (xs (i + 1)) (xs (i + 2))
      exact l_tswIn C 33 476 (8 : Int32) rfl dL_law_33 (by decide) (by decide) rfl (by decide) (lc_8 C hi hL hce hsl h8 h9 (hk _ _ hR'))
    · obtain ⟨r, σ', τ', h8, h9, hR'⟩ := p9 σ τ hR (xs (i + 1))
      exact l_tswIn C 33 509 (9 : Int32) rfl dL_law_33 (by decide) (by decide) rfl (by decide) (lc_9 C hi hL hce hsl h8 h9 (hk _ _ hR'))
    · obtain ⟨r, σ', τ', h8, h9, hR'⟩ := p10 σ τ hR (xs (i + 1))
      exact l_tswIn C 33 532 (10 : Int32) rfl dL_law_33 (by decide) (by decide) rfl (by decide) (lc_10 C hi hL hce hsl h8 h9 (hk _ _ hR'))
    · obtain ⟨r, σ', τ', h8, h9, hR'⟩ := p11 σ τ hR
      exact l_tswIn C 33 555 (11 : Int32) rfl dL_law_33 (by decide) (by decide) rfl (by decide) (lc_11 C hi hL hce hsl h8 h9 (hk _ _ hR'))
    · obtain ⟨r, σ', τ', h8, h9, hR'⟩ := p12 σ τ hR (xs (i + 1)) (xs (i + 2)) (xs (i + 3))
      exact l_tswIn C 33 568 (12 : Int32) rfl dL_law_33 (by decide) (by decide) rfl (by decide) (lc_12 C hi hL hce hsl h8 h9 (hk _ _ hR'))
    · obtain ⟨r, σ', τ', h8, h9, hR'⟩ := p13 σ τ hR (xs (i + 1)) (xs (i + 2))
      exact l_tswIn C 33 627 (13 : Int32) rfl dL_law_33 (by decide) (by decide) rfl (by decide) (lc_13 C hi hL hce hsl h8 h9 (hk _ _ hR'))
    · obtain ⟨r, σ', τ', h8, h9, hR'⟩ := p14 σ τ hR (xs (i + 1)) (xs (i + 2))
      exact l_tswIn C 33 660 (14 : Int32) rfl dL_law_33 (by decide) (by decide) rfl (by decide) (lc_14 C hi hL hce hsl h8 h9 (hk _ _ hR'))
    · obtain ⟨r, τ', h8, h9, hR'⟩ := p15 σ τ hR (xs (i + 1)) (xs (i + 2))
      exact l_tswIn C 33 693 (15 : Int32) rfl dL_law_33 (by decide) (by decide) rfl (by decide) (lc_15 C hi hL hce hsl h8 h9 (hk _ _ hR'))
    · obtain ⟨r, h8, h9, hR'⟩ := p16 σ τ hR (xs (i + 1))
      exact l_tswIn C 33 726 (16 : Int32) rfl dL_law_33 (by decide) (by decide) rfl (by decide) (lc_16 C hi hL hce hsl h8 h9 (hk _ _ hR'))
    · obtain ⟨r, σ', τ', h8, h9, hR'⟩ := p17 σ τ hR (xs (i + 1)) (xs (i + 2))
      exact l_tswIn C 33 749 (17 : Int32) rfl dL_law_33 (by decide) (by decide) rfl (by decide) (lc_17 C hi hL hce hsl h8 h9 (hk _ _ hR'))
    · obtain ⟨r, τ', h8, h9, hR'⟩ := p18 σ τ hR (xs (i + 1)) (xs (i + 2))
      exact l_tswIn C 33 782 (18 : Int32) rfl dL_law_33 (by decide) (by decide) rfl (by decide) (lc_18 C hi hL hce hsl h8 h9 (hk _ _ hR'))
    · obtain ⟨r, h8, h9, hR'⟩ := p19 σ τ hR (xs (i + 1)) (xs (i + 2))
      exact l_tswIn C 33 815 (19 : Int32) rfl dL_law_33 (by decide) (by decide) rfl (by decide) (lc_19 C hi hL hce hsl h8 h9 (hk _ _ hR'))
    · obtain ⟨r, h8, h9, hR'⟩ := p20 σ τ hR (xs (i + 1)) (xs (i + 2)) (xs (i + 3))
      exact l_tswIn C 33 848 (20 : Int32) rfl dL_law_33 (by decide) (by decide) rfl (by decide) (lc_20 C hi hL hce hsl h8 h9 (hk _ _ hR'))
    · obtain ⟨r, h8, h9, hR'⟩ := p21 σ τ hR (xs (i + 1))
      exact l_tswIn C 33 907 (21 : Int32) rfl dL_law_33 (by decide) (by decide) rfl (by decide) (lc_21 C hi hL hce hsl h8 h9 (hk _ _ hR'))
    · obtain ⟨r, τ', h8, h9, hR'⟩ := p22 σ τ hR (xs (i + 1)) (xs (i + 2))
      exact l_tswIn C 33 930 (22 : Int32) rfl dL_law_33 (by decide) (by decide) rfl (by decide) (lc_22 C hi hL hce hsl h8 h9 (hk _ _ hR'))
    · obtain ⟨r, σ', τ', h8, h9, hR'⟩ := p23 σ τ hR (xs (i + 1)) (xs (i + 2))
      exact l_tswIn C 33 963 (23 : Int32) rfl dL_law_33 (by decide) (by decide) rfl (by decide) (lc_23 C hi hL hce hsl h8 h9 (hk _ _ hR'))
    · obtain ⟨r, σ', τ', h8, h9, hR'⟩ := p24 σ τ hR (xs (i + 1)) (xs (i + 2))
      exact l_tswIn C 33 996 (24 : Int32) rfl dL_law_33 (by decide) (by decide) rfl (by decide) (lc_24 C hi hL hce hsl h8 h9 (hk _ _ hR'))
    · obtain ⟨r, τ', h8, h9, hR'⟩ := p25 σ τ hR (xs (i + 1)) (xs (i + 2))
      exact l_tswIn C 33 1029 (25 : Int32) rfl dL_law_33 (by decide) (by decide) rfl (by decide) (lc_25 C hi hL hce hsl h8 h9 (hk _ _ hR'))
    · obtain ⟨r, σ', τ', h8, h9, hR'⟩ := p26 σ τ hR (xs (i + 1)) (xs (i + 2)) (xs (i + 3))
      exact l_tswIn C 33 1062 (26 : Int32) rfl dL_law_33 (by decide) (by decide) rfl (by decide) (lc_26 C hi hL hce hsl h8 h9 (hk _ _ hR'))
    · obtain ⟨r, σ', τ', h8, h9, hR'⟩ := p27 σ τ hR (xs (i + 1)) (xs (i + 2)) (xs (i + 3))
      exact l_tswIn C 33 1105 (27 : Int32) rfl dL_law_33 (by decide) (by decide) rfl (by decide) (lc_27 C hi hL hce hsl h8 h9 (hk _ _ hR'))
    · obtain ⟨r, σ', τ', h8, h9, hR'⟩ := p28 σ τ hR (xs (i + 1)) (xs (i + 2))
      exact l_tswIn C 33 1148 (28 : Int32) rfl dL_law_33 (by decide) (by decide) rfl (by decide) (lc_28 C hi hL hce hsl h8 h9 (hk _ _ hR'))
    · obtain ⟨r, σ', τ', h8, h9, hR'⟩ := p29 σ τ hR (xs (i + 1)) (xs (i + 2))
      exact l_tswIn C 33 1181 (29 : Int32) rfl dL_law_33 (by decide) (by decide) rfl (by decide) (lc_29 C hi hL hce hsl h8 h9 (hk _ _ hR'))
    · obtain ⟨r, τ', h8, h9, hR'⟩ := p30 σ τ hR (xs (i + 1))
      exact l_tswIn C 33 1214 (30 : Int32) rfl dL_law_33 (by decide) (by decide) rfl (by decide) (lc_30 C hi hL hce hsl h8 h9 (hk _ _ hR'))
    · obtain ⟨r, σ', τ', h8, h9, hR'⟩ := p31 σ τ hR (xs (i + 1)) (xs (i + 2))
      exact l_tswIn C 33 1237 (31 : Int32) rfl dL_law_33 (by decide) (by decide) rfl (by decide) (lc_31 C hi hL hce hsl h8 h9 (hk _ _ hR'))
    · obtain ⟨r, σ', τ', h8, h9, hR'⟩ := p32 σ τ hR (xs (i + 1)) (xs (i + 2)) (xs (i + 3))
      exact l_tswIn C 33 1270 (32 : Int32) rfl dL_law_33 (by decide) (by decide) rfl (by decide) (lc_32 C hi hL hce hsl h8 h9 (hk _ _ hR'))
    · obtain ⟨r, τ', h8, h9, hR'⟩ := p33 σ τ hR (xs (i + 1)) (xs (i + 2))
      exact l_tswIn C 33 1313 (33 : Int32) rfl dL_law_33 (by decide) (by decide) rfl (by decide) (lc_33 C hi hL hce hsl h8 h9 (hk _ _ hR'))
    · obtain ⟨r, τ', h8, h9, hR'⟩ := p34 σ τ hR (xs (i + 1))
      exact l_tswIn C 33 1362 (34 : Int32) rfl dL_law_33 (by decide) (by decide) rfl (by decide) (lc_34 C hi hL hce hsl h8 h9 (hk _ _ hR'))
    · obtain ⟨r, σ', τ', h8, h9, hR'⟩ := p35 σ τ hR (xs (i + 1))
      exact l_tswIn C 33 1385 (35 : Int32) rfl dL_law_33 (by decide) (by decide) rfl (by decide) (lc_35 C hi hL hce hsl h8 h9 (hk _ _ hR'))
    · obtain ⟨r, σ', τ', h8, h9, hR'⟩ := p36 σ τ hR
      exact l_tswIn C 33 1408 (36 : Int32) rfl dL_law_33 (by decide) (by decide) rfl (by decide) (lc_36 C hi hL hce hsl h8 h9 (hk _ _ hR'))
    · obtain ⟨r, σ', τ', h8, h9, hR'⟩ := p37 σ τ hR (xs (i + 1)) (xs (i + 2))
      exact l_tswIn C 33 1421 (37 : Int32) rfl dL_law_33 (by decide) (by decide) rfl (by decide) (lc_37 C hi hL hce hsl h8 h9 (hk _ _ hR'))
    · obtain ⟨r, σ', τ', h8, h9, hR'⟩ := p38 σ τ hR (xs (i + 1))
      exact l_tswIn C 33 1454 (38 : Int32) rfl dL_law_33 (by decide) (by decide) rfl (by decide) (lc_38 C hi hL hce hsl h8 h9 (hk _ _ hR'))
    · obtain ⟨r, σ', τ', h8, h9, hR'⟩ := p39 σ τ hR (xs (i + 1))
      exact l_tswIn C 33 1477 (39 : Int32) rfl dL_law_33 (by decide) (by decide) rfl (by decide) (lc_39 C hi hL hce hsl h8 h9 (hk _ _ hR'))
    · obtain ⟨r, σ', τ', h8, h9, hR'⟩ := p40 σ τ hR (xs (i + 1))
      exact l_tswIn C 33 1500 (40 : Int32) rfl dL_law_33 (by decide) (by decide) rfl (by decide) (lc_40 C hi hL hce hsl h8 h9 (hk _ _ hR'))
  · refine l_tswOut C 33 1523 dL_law_33 (Or.inr ?_) (by decide) (hk _ _ hR)
    rw [nI_toInt (by omega)]; omega
theorem law_loop {K : Kt} {V8 : Ct_V} {V9 : Vt} {b LL ce sl : Nat} {xs : Nat → Int32} {Rel : Wd → Wd → Prop} (C : Lx K V8 V9 b LL xs) (h4 : K.2.2.2.2.2.2.2.2.2.2.1 = 4) (hS : Steps Rel) (hL : LL ≤ 3072) (hce : ce ≤ 600000) (hsl : sl ≤ 7302250) (hend : ∀ (σ τ : Wd) (L : List (Nat × Value)), Gw K V8 V9 σ τ ce sl 1529 L []) : ∀ (n i : Nat) (σ τ : Wd), i ≤ 4000 → LL ≤ i + 6 * n → Rel σ τ → Gw K V8 V9 σ τ ce sl 18 [(0, .ref b), (1, .ref (zA (Zc V8) 0)), (2, .ref (zA (Zm V9) 0)), (3, .int (nI i))] [] := by
  have hN := nl_of h4
  have hlt : ∀ i, i ≤ 4000 → (nI LL - 6 < nI i ↔ LL < i + 6) := by
    intro i hi
    rw [Int32.lt_iff_toInt_lt, show (6 : Int32) = nI 6 from rfl, pk_sub_toInt (by omega) (by decide), nI_toInt (by omega)]
    omega
  intro n
  induction n with
  | zero =>
    intro i σ τ hi hn hR
    refine l_iload_n C 18 3 dL_law_18 rfl ?_
    refine l_aload_n C 19 0 dL_law_19 rfl ?_
    refine l_slen C 20 dL_law_20 ?_
    refine l_bipush C 21 dL_law_21 kb_6 ?_
    refine l_isub C 23 dL_law_23 ?_
    refine l_gt C 24 1529 dL_law_24 (by decide) (fun _ => hend _ _ _) (fun h => ?_)
    exact absurd ((hlt i hi).mpr (by omega)) h
  | succ n ih =>
    intro i σ τ hi hn hR
    refine l_iload_n C 18 3 dL_law_18 rfl ?_
    refine l_aload_n C 19 0 dL_law_19 rfl ?_
    refine l_slen C 20 dL_law_20 ?_
    refine l_bipush C 21 dL_law_21 kb_6 ?_
    refine l_isub C 23 dL_law_23 ?_
    refine l_gt C 24 1529 dL_law_24 (by decide) (fun _ => hend _ _ _) (fun h => ?_)
    have h6 : i + 6 ≤ LL := by
      rcases Nat.lt_or_ge LL (i + 6) with q | q
      · exact absurd ((hlt i hi).mpr q) h
      · exact q
    refine l_aload_n C 27 0 dL_law_27 rfl ?_
    refine l_iload_n C 28 3 dL_law_28 rfl ?_
    refine l_sld C 29 i rfl (by omega) hL dL_law_29 ?_
    refine l_bipush C 30 dL_law_30 kb_63 ?_
    refine l_iand C 32 dL_law_32 ?_
    obtain ⟨j, hj, e⟩ := pk_andE (xs i) (m := 63) 6 rfl
    rw [e]
    refine law_case C hS h6 hL hce hsl hj hR (fun σ' τ' hR' => ?_)
    refine l_iinc (v := nI (i + 6)) (L' := [(3, .int (nI (i + 6))), (0, .ref b), (1, .ref (zA (Zc V8) 0)), (2, .ref (zA (Zm V9) 0))]) C 1523 3 dL_law_1523 rfl (nI_add i 6) (hN _ (Nat.le_of_ble_eq_true rfl)) rfl ?_
    refine l_goto C 1526 18 dL_law_1526 (by decide) ?_
    refine l_sub C [1, 2, 3, 0] rfl ?_
    exact ih (i + 6) σ' τ' (by omega) (by omega) hR'
