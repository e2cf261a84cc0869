/-! the law's steps in a row, and the law -/
section ST7
variable {T : Td} {g : Gs} {un : Nat} {hs sl : Nat → Gs} {hl : Nat → Nat} {σ : Wd} {q : Lq}
theorem s_step (hL : LQ T q) (h : At T g un hs sl hl σ) {k n : Nat} (hU : un < 40) (hk : k ≤ 40) (hW : gW g < 60) (hn : n < 29) (hS : SI k g) : Ends T un k sl hl n (M_L_law_L120 q (nI (tN T)) (nI (tC T)) 1 (nI n) σ) := by
  have n5 := h.n5
  have hib : ib (nI n) 44 := (ib_nI (by omega)).mpr (by omega)
  have hN1 : nI (tN T) + (1 : Int32) = nI (tN T + 1) := nI_1 _
  have hC1 : nI (tC T) + (1 : Int32) = nI (tC T + 1) := nI_1 _
  have hN0 : ¬ nI (tN T + 1) = 0 := fun z => by have := (nI_eq (b := 0) (by omega) (by decide)).mp z; omega
  have hC0 : ¬ nI (tC T + 1) = 0 := fun z => by have := (nI_eq (b := 0) (by omega) (by decide)).mp z; omega
  obtain ⟨a, ha, ea⟩ := rem255 (x := lX q (ix (nI n))) (m := tN T + 1) (by omega) (by omega)
  obtain ⟨b, hb, eb⟩ := rem255 (x := (lX q (ix (nI n))) >>> ((2 : Int32) &&& 31)) (m := tN T + 1) (by omega) (by omega)
  obtain ⟨f, hf, ef⟩ := rem255 (x := (lX q (ix (nI n))) >>> ((10 : Int32) &&& 31)) (m := tC T + 1) (by omega) (by omega)
  obtain ⟨j, hj, ej⟩ := ses8 (x := lX q (ix (nI n)))
  obtain ⟨v, hv, ev⟩ := pk_andE ((lX q (ix (nI n))) >>> ((10 : Int32) &&& 31)) (m := 15) 4 rfl
  obtain ⟨m, hm, em⟩ := pk_andE ((lX q (ix (nI n))) >>> ((10 : Int32) &&& 31)) (m := 1) 1 rfl
  have ev : (((lX q (ix (nI n))) >>> ((10 : Int32) &&& 31)) &&& (15 : Int32)) = nI v := ev
  have em : (((lX q (ix (nI n))) >>> ((10 : Int32) &&& 31)) &&& (1 : Int32)) = nI m := em
  obtain ⟨σ1, e1, h1⟩ := x_copy h (c := a) (k := 0) (by omega) (by decide)
  obtain ⟨σ2, e2, h2⟩ := x_copy h1 (c := b) (k := 1) (by omega) (by decide)
  obtain ⟨e3, _⟩ := x_sess h2 (s := 0) (by decide)
  have e1 : M_X8_copy σ (nI a) 0 = some (copyV T g a 0, σ1) := e1
  have e2 : M_X8_copy σ1 (nI b) 1 = some (copyV T g b 1, σ2) := e2
  have e3 : M_X8_session σ2 0 0 = some (nI (gQ g 0)) := e3
  have j316 := s_316 (q := q) (n := n) (j := j) (a := a) (b := b) hL h2 hU hj hW (by omega) (by omega) (by omega) hS
  unfold M_L_law_L120
  rw [if_neg (fun z => by have := (nI_leI (a := 29) (by decide) (by omega)).mp z; omega), if_neg n10, chk_pos hib, hN1, hC1, chk_pos hN0, ea, lt_eq, chk_pos hib, chk_pos hN0, eb, lt_eq, chk_pos hib, ej, lt_eq, x_count3 h, bnd2_some, x_count4 h, bnd2_some, x_count7 h, bnd2_some, x_count12 h, bnd2_some, x_count16 h, bnd2_some, x_count9 h, bnd2_some, e1, bnd2_some, e2, bnd2_some, e3, bnd1_some, x_count5 h2, bnd2_some, x_count6 h2, bnd2_some, chk_pos hib]
  generalize (((lX q (ix (nI n))) >>> ((7 : Int32) &&& 31)) &&& (7 : Int32)) = kk
  by_cases k0 : kk = 0
  · rw [if_pos k0]; exact j316
  rw [if_neg k0]
  by_cases k1 : kk = 1
  · rw [if_pos k1]; exact j316
  rw [if_neg k1]
  by_cases k2 : kk = 2
  · rw [if_pos k2]; exact j316
  rw [if_neg k2]
  by_cases k3 : kk = 3
  · rw [if_pos k3]; exact j316
  rw [if_neg k3]
  by_cases k4 : kk = 4
  · rw [if_pos k4, chk_pos hib, chk_pos hC0, ef, lt_eq]
    exact s_ask h2 hU hj (by omega) (by omega) (by omega) (by omega) hS
  rw [if_neg k4]
  by_cases k5 : kk = 5
  · rw [if_pos k5]
    exact s_meet h2 hU (by omega) (by omega) (by omega) hS
  rw [if_neg k5]
  by_cases k6 : kk = 6
  · rw [if_pos k6, chk_pos hib, ev, lt_eq]
    exact s_promise h2 hU (by omega) (by omega) (by omega) (by omega) hS
  rw [if_neg k6, chk_pos hib, em, lt_eq, chk_pos hib]
  by_cases k7 : ((lX q (ix (nI n))) >>> ((11 : Int32) &&& 31)) &&& (1 : Int32) ≠ 0
  · rw [if_pos k7]
    exact s_chance h2 hU (by omega) hk (by omega) (by omega) (by omega) hS
  · rw [if_neg k7]
    exact s_lead h2 hU (by omega) (by omega) (by omega) hS
theorem s_loop (hL : LQ T q) : ∀ (d n fu un : Nat) (g : Gs) (hs : Nat → Gs) (σ : Wd), 10 ≤ n → n + d = 29 → d < fu → un ≤ n - 10 → SI (n - 10) g → At T g un hs sl hl σ → ∃ un' g' hs' σ', iter (fun s : Int32 × Int32 × Wd => M_L_law_L120 q (nI (tN T)) (nI (tC T)) s.1 s.2.1 s.2.2) fu ((1 : Int32), nI n, σ) = some (1, σ') ∧ At T g' un' hs' sl hl σ' ∧ un' ≤ 19 ∧ SI 19 g' := by
  intro d
  induction d with
  | zero =>
    intro n fu un g hs σ h10 hn hf hu hS h
    obtain ⟨m, rfl⟩ : ∃ m, fu = m + 1 := ⟨fu - 1, by omega⟩
    obtain rfl : n = 29 := by omega
    refine ⟨un, g, hs, σ, it_x ?_, h, hu, hS⟩
    show M_L_law_L120 q (nI (tN T)) (nI (tC T)) 1 (nI 29) σ = _
    unfold M_L_law_L120
    rw [if_pos (by decide)]
  | succ d ih =>
    intro n fu un g hs σ h10 hn hf hu hS h
    obtain ⟨m, rfl⟩ : ∃ m, fu = m + 1 := ⟨fu - 1, by omega⟩
    obtain ⟨u1, g1, hs1, σ1, e1, b1, S1, h1⟩ := s_step hL h (k := n - 10) (n := n) (by omega) (by omega) (by have := hS.1; omega) (by omega) hS
    obtain ⟨u2, g2, hs2, σ2, r1, r2, r3, r4⟩ := ih (n + 1) m u1 g1 hs1 σ1 (by omega) (by omega) (by omega) (by omega) (by rw [show n + 1 - 10 = n - 10 + 1 by omega]; exact S1) h1
    exact ⟨u2, g2, hs2, σ2, (it_s e1).trans r1, r2, r3, r4⟩
theorem law_e (q : Lq) (σ : Wd) : M_L_law q σ 1 = bnd1 (iter (fun s : Int32 × Int32 × Wd => M_L_law_L120 q (lZ q 0) (lZ q 1) s.1 s.2.1 s.2.2) FU ((1 : Int32), (10 : Int32), σ)) (un2 fun x5_120 sx_120 => (M_L_law_J1933 q sx_120 x5_120 (lZ q 0) (lZ q 1))) := rfl
theorem ten_i : (10 : Int32) = nI 10 := by decide
end ST7
