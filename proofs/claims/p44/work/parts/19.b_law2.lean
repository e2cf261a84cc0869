/-! the law: the machine does what the program tells -/
set_option maxRecDepth 100000 in
set_option maxHeartbeats 40000000 in
theorem c_LL2458 {V : Ct_V} {A : Nat → Nat} {q : Lq} {K : Kt} (C : Fx K (Zl V A q) cL_law RL 7 171) (hNW : ∀ w ∈ NWl, va_Nw w K.2.2.2.2.1) (hN : ∀ i, i < 30 → ∀ K2 : Kt, K = K2 → i < K2.2.2.2.2.2.2.2.2.2.2.1) (R : Lr K (Zl V A q)) {E1985 : ((Int32 × Int32 × Wd) ⊕ (Int32 × Wd)) → Prop} {E2458 : ((Int32 × Int32 × Wd) ⊕ (Int32 × Wd)) → Prop} {r1955 : Int32} {r1962 : Int32} {r1970 : Int32} {r1977 : Int32} {v12_2453 : Int32} {v13_2453 : Int32} {v6_1951 : Int32} {v7_1951 : Int32} (hx2458 : ∀ x, E2458 (.inr x) → ∃ q0, (un2 fun x5_2458 sx_2458 => (M_L_law_J2604 q sx_2458 x5_2458 v6_1951 v7_1951 r1955 r1962 r1970 r1977 v12_2453 v13_2453)) x = some q0 ∧ E1985 q0) (hJ2604 : ∀ (σ_2604 : Wd) (v5_2604 : Int32) (v12_2604 : Int32) (v13_2604 : Int32), Y K (Zl V A q) (M_L_law_J2604 q σ_2604 v5_2604 v6_1951 v7_1951 r1955 r1962 r1970 r1977 v12_2604 v13_2604) E1985 σ_2604 2604 [(1, .ref (A 0)), (3, .ref (zA (Zl V A q) 0)), (4, .ref (A 1)), (5, .int v5_2604), (6, .int v6_1951), (7, .int v7_1951), (8, .int r1955), (9, .int r1962), (10, .int r1970), (11, .int r1977), (12, .int v12_2604), (13, .int v13_2604)] []) (hb2458 : ∀ s' : Int32 × Int32 × Wd, E2458 (.inl s') → Go K (Zl V A q) ((fun s : Int32 × Int32 × Wd => s.2.2) s') 2458 ((fun s : Int32 × Int32 × Wd => [(1, .ref (A 0)), (3, .ref (zA (Zl V A q) 0)), (4, .ref (A 1)), (5, .int s.1), (6, .int v6_1951), (7, .int v7_1951), (8, .int r1955), (9, .int r1962), (10, .int r1970), (11, .int r1977), (12, .int v12_2453), (13, .int v13_2453), (18, .int s.2.1)]) s') []) : ∀ (v5_2458 : Int32) (v18_2458 : Int32) (s_2458 : Wd), Y K (Zl V A q) (M_L_law_L2458 q v6_1951 v7_1951 r1955 r1962 r1970 r1977 v12_2453 v13_2453 v5_2458 v18_2458 s_2458) E2458 s_2458 2458 [(1, .ref (A 0)), (3, .ref (zA (Zl V A q) 0)), (4, .ref (A 1)), (5, .int v5_2458), (6, .int v6_1951), (7, .int v7_1951), (8, .int r1955), (9, .int r1962), (10, .int r1970), (11, .int r1977), (12, .int v12_2453), (13, .int v13_2453), (18, .int v18_2458)] [] := by
  intro v5_2458 v18_2458 s_2458
  unfold M_L_law_L2458
  refine x_iload C 2458 12 dL_law_2458 rfl ?_
  refine x_iload C 2460 5 dL_law_2460 rfl ?_
  refine x_icmp_ge C 2462 2604 dL_law_2462 (by decide) (fun _ => ?_) (fun _ => ?_)
  · refine x_ex2 hx2458 v5_2458 s_2458 ?_
    refine Y_sub [0, 1, 2, 3, 4, 5, 6, 7, 8, 9, 10, 11] rfl ?_
    exact hJ2604 _ _ _ _
  · refine x_aload_n C 2465 1 dL_law_2465 rfl ?_
    refine x_iload C 2466 10 dL_law_2466 rfl ?_
    refine x_iload C 2468 12 dL_law_2468 rfl ?_
    refine Y_bnd2 (fun r2470 s_2470 h2470 => ?_)
    refine x_callLV C 2470 [.int v12_2453, .int v18_2458] [] rfl tw_1022 mv_X8_setter rfl (Nat.le_of_ble_eq_true rfl) (Nat.le_of_ble_eq_true rfl) (Nat.le_of_ble_eq_true rfl) dL_law_2470 (c_X8_setter V _ _ _ _ h2470) ?_
    refine x_istore C 2473 (L' := [(19, .int r2470), (1, .ref (A 0)), (3, .ref (zA (Zl V A q) 0)), (4, .ref (A 1)), (5, .int v5_2458), (6, .int v6_1951), (7, .int v7_1951), (8, .int r1955), (9, .int r1962), (10, .int r1970), (11, .int r1977), (12, .int v12_2453), (13, .int v13_2453), (18, .int v18_2458)]) dL_law_2473 (hN _ (Nat.le_of_ble_eq_true rfl)) rfl ?_
    refine x_iload C 2475 4 dL_law_2475 rfl ?_
    have hJ2596 : ∀ (σ_2596 : Wd) (v18_2596 : Int32) (t0_2596 : Int32), Y K (Zl V A q) (M_L_law_J2596 q σ_2596 v6_1951 v7_1951 r1955 r1962 r1970 r1977 v12_2453 v13_2453 v18_2596 t0_2596) E2458 σ_2596 2596 [(1, .ref (A 0)), (3, .ref (zA (Zl V A q) 0)), (4, .ref (A 1)), (6, .int v6_1951), (7, .int v7_1951), (8, .int r1955), (9, .int r1962), (10, .int r1970), (11, .int r1977), (12, .int v12_2453), (13, .int v13_2453), (18, .int v18_2596)] [.int t0_2596] := c_LJ2596 C hNW hN R hb2458
    have hJ2595 : ∀ (σ_2595 : Wd) (v18_2595 : Int32), Y K (Zl V A q) (M_L_law_J2595 q σ_2595 v6_1951 v7_1951 r1955 r1962 r1970 r1977 v12_2453 v13_2453 v18_2595) E2458 σ_2595 2595 [(1, .ref (A 0)), (3, .ref (zA (Zl V A q) 0)), (4, .ref (A 1)), (6, .int v6_1951), (7, .int v7_1951), (8, .int r1955), (9, .int r1962), (10, .int r1970), (11, .int r1977), (12, .int v12_2453), (13, .int v13_2453), (18, .int v18_2595)] [] := c_LJ2595 C hNW hN R hJ2596
    refine x_if_eq C 2477 2595 dL_law_2477 (by decide) (fun _ => ?_) (fun _ => ?_)
    · refine Y_sub [1, 2, 3, 5, 6, 7, 8, 9, 10, 11, 12, 13] rfl ?_
      exact hJ2595 _ _
    · refine x_aload_n C 2480 2 dL_law_2480 rfl ?_
      refine x_iload C 2481 11 dL_law_2481 rfl ?_
      refine x_iload C 2483 13 dL_law_2483 rfl ?_
      refine x_iconst C 2485 dL_law_2485 ki_0 ?_
      refine Y_bnd2 (fun r2486 s_2486 h2486 => ?_)
      refine x_callLV C 2486 [.int v12_2453, .int v18_2458, .int (0 : Int32)] [] rfl tw_1004 mv_X8_behind rfl (Nat.le_of_ble_eq_true rfl) (Nat.le_of_ble_eq_true rfl) (Nat.le_of_ble_eq_true rfl) dL_law_2486 (c_X8_behind V _ _ _ _ _ h2486) ?_
      refine x_aload C 2489 3 dL_law_2489 rfl ?_
      refine x_net (v := .ref (A 2)) C hNW 2491 8 (Nat.le_of_ble_eq_true rfl) rfl rfl (List.mem_of_getElem? (i := 15) rfl) dL_law_2491 ?_
      refine x_iload C 2494 13 dL_law_2494 rfl ?_
      refine x_first C 2496 dL_law_2496 (fun _ => ?_)
      refine x_icmp_ne C 2497 2595 dL_law_2497 (by decide) (fun _ => ?_) (fun _ => ?_)
      · refine Y_sub [1, 2, 3, 5, 6, 7, 8, 9, 10, 11, 12, 13] rfl ?_
        exact hJ2595 _ _
      · refine x_aload_n C 2500 2 dL_law_2500 rfl ?_
        refine x_iload C 2501 11 dL_law_2501 rfl ?_
        refine x_iload C 2503 13 dL_law_2503 rfl ?_
        refine x_iload C 2505 12 dL_law_2505 rfl ?_
        refine Y_bnd2 (fun r2507 s_2507 h2507 => ?_)
        refine x_callLV C 2507 [.int v12_2453, .int v18_2458, .int v13_2453] [] rfl tw_1004 mv_X8_behind rfl (Nat.le_of_ble_eq_true rfl) (Nat.le_of_ble_eq_true rfl) (Nat.le_of_ble_eq_true rfl) dL_law_2507 (c_X8_behind V _ _ _ _ _ h2507) ?_
        refine x_aload_n C 2510 2 dL_law_2510 rfl ?_
        refine x_iload C 2511 11 dL_law_2511 rfl ?_
        refine x_iload C 2513 13 dL_law_2513 rfl ?_
        refine x_iconst C 2515 dL_law_2515 ki_0 ?_
        refine Y_bnd2 (fun r2516 s_2516 h2516 => ?_)
        refine x_callLV C 2516 [.int v12_2453, .int v18_2458, .int (0 : Int32)] [.int r2507] rfl tw_869 mv_X8_cell rfl (Nat.le_of_ble_eq_true rfl) (Nat.le_of_ble_eq_true rfl) (Nat.le_of_ble_eq_true rfl) dL_law_2516 (c_X8_cell V _ _ _ _ _ h2516) ?_
        refine x_icmp_ne C 2519 2595 dL_law_2519 (by decide) (fun _ => ?_) (fun _ => ?_)
        · refine Y_sub [1, 2, 3, 5, 6, 7, 8, 9, 10, 11, 12, 13] rfl ?_
          exact hJ2595 _ _
        · refine x_aload_n C 2522 2 dL_law_2522 rfl ?_
          refine x_iload C 2523 11 dL_law_2523 rfl ?_
          refine x_iload C 2525 13 dL_law_2525 rfl ?_
          refine x_aload_n C 2527 2 dL_law_2527 rfl ?_
          refine x_iload C 2528 11 dL_law_2528 rfl ?_
          refine x_iconst C 2530 dL_law_2530 ki_2 ?_
          refine Y_bnd2 (fun r2531 s_2531 h2531 => ?_)
          refine x_callLV C 2531 [.int v12_2453, .int (2 : Int32)] [.int v18_2458, .int v12_2453, .ref (zA (Zl V A q) 0)] rfl tw_917 mv_X8_copy rfl (Nat.le_of_ble_eq_true rfl) (Nat.le_of_ble_eq_true rfl) (Nat.le_of_ble_eq_true rfl) dL_law_2531 (c_X8_copy V _ _ _ _ h2531) ?_
          refine Y_bnd2 (fun r2534 s_2534 h2534 => ?_)
          refine x_callLV C 2534 [.int v12_2453, .int v18_2458, .int r2531] [] rfl tw_1004 mv_X8_behind rfl (Nat.le_of_ble_eq_true rfl) (Nat.le_of_ble_eq_true rfl) (Nat.le_of_ble_eq_true rfl) dL_law_2534 (c_X8_behind V _ _ _ _ _ h2534) ?_
          refine x_aload_n C 2537 2 dL_law_2537 rfl ?_
          refine x_iload C 2538 11 dL_law_2538 rfl ?_
          refine x_iload C 2540 13 dL_law_2540 rfl ?_
          refine x_iconst C 2542 dL_law_2542 ki_1 ?_
          refine Y_bnd2 (fun r2543 s_2543 h2543 => ?_)
          refine x_callLV C 2543 [.int v12_2453, .int v18_2458, .int (1 : Int32)] [.int r2534] rfl tw_869 mv_X8_cell rfl (Nat.le_of_ble_eq_true rfl) (Nat.le_of_ble_eq_true rfl) (Nat.le_of_ble_eq_true rfl) dL_law_2543 (c_X8_cell V _ _ _ _ _ h2543) ?_
          refine x_icmp_ne C 2546 2595 dL_law_2546 (by decide) (fun _ => ?_) (fun _ => ?_)
          · refine Y_sub [1, 2, 3, 5, 6, 7, 8, 9, 10, 11, 12, 13] rfl ?_
            exact hJ2595 _ _
          · refine x_iload C 2549 0 dL_law_2549 rfl ?_
            have hJ2574 : ∀ (σ_2574 : Wd) (v18_2574 : Int32) (v19_2574 : Int32), Y K (Zl V A q) (M_L_law_J2574 q σ_2574 v6_1951 v7_1951 r1955 r1962 r1970 r1977 v12_2453 v13_2453 v18_2574 v19_2574) E2458 σ_2574 2574 [(1, .ref (A 0)), (3, .ref (zA (Zl V A q) 0)), (4, .ref (A 1)), (6, .int v6_1951), (7, .int v7_1951), (8, .int r1955), (9, .int r1962), (10, .int r1970), (11, .int r1977), (12, .int v12_2453), (13, .int v13_2453), (18, .int v18_2574), (19, .int v19_2574)] [] := c_LJ2574 C hNW hN R hJ2596 hJ2595
            refine x_if_ge C 2551 2574 dL_law_2551 (by decide) (fun _ => ?_) (fun _ => ?_)
            · refine Y_sub [1, 2, 3, 5, 6, 7, 8, 9, 10, 11, 12, 13, 0] rfl ?_
              exact hJ2574 _ _ _
            · refine x_aload_n C 2554 2 dL_law_2554 rfl ?_
              refine x_iload C 2555 11 dL_law_2555 rfl ?_
              refine x_iload C 2557 13 dL_law_2557 rfl ?_
              refine x_iconst C 2559 dL_law_2559 ki_0 ?_
              refine Y_bnd2 (fun r2560 s_2560 h2560 => ?_)
              refine x_callLV C 2560 [.int v12_2453, .int v18_2458, .int (0 : Int32)] [] rfl tw_869 mv_X8_cell rfl (Nat.le_of_ble_eq_true rfl) (Nat.le_of_ble_eq_true rfl) (Nat.le_of_ble_eq_true rfl) dL_law_2560 (c_X8_cell V _ _ _ _ _ h2560) ?_
              refine x_aload C 2563 3 dL_law_2563 rfl ?_
              refine x_net (v := .ref (A 2)) C hNW 2565 8 (Nat.le_of_ble_eq_true rfl) rfl rfl (List.mem_of_getElem? (i := 15) rfl) dL_law_2565 ?_
              refine x_iload C 2568 13 dL_law_2568 rfl ?_
              refine x_first C 2570 dL_law_2570 (fun _ => ?_)
              refine x_icmp_ne C 2571 2595 dL_law_2571 (by decide) (fun _ => ?_) (fun _ => ?_)
              · refine Y_sub [1, 2, 3, 5, 6, 7, 8, 9, 10, 11, 12, 13] rfl ?_
                exact hJ2595 _ _
              · refine Y_sub [1, 2, 3, 5, 6, 7, 8, 9, 10, 11, 12, 13, 0] rfl ?_
                exact hJ2574 _ _ _
set_option maxRecDepth 100000 in
set_option maxHeartbeats 40000000 in
theorem c_LJ2453 {V : Ct_V} {A : Nat → Nat} {q : Lq} {K : Kt} (C : Fx K (Zl V A q) cL_law RL 7 171) (hNW : ∀ w ∈ NWl, va_Nw w K.2.2.2.2.1) (hN : ∀ i, i < 30 → ∀ K2 : Kt, K = K2 → i < K2.2.2.2.2.2.2.2.2.2.2.1) (R : Lr K (Zl V A q)) {E1985 : ((Int32 × Int32 × Wd) ⊕ (Int32 × Wd)) → Prop} {r1955 : Int32} {r1962 : Int32} {r1970 : Int32} {r1977 : Int32} {v6_1951 : Int32} {v7_1951 : Int32} (hb1985 : ∀ s' : Int32 × Int32 × Wd, E1985 (.inl s') → Go K (Zl V A q) ((fun s : Int32 × Int32 × Wd => s.2.2) s') 1985 ((fun s : Int32 × Int32 × Wd => [(1, .ref (A 0)), (3, .ref (zA (Zl V A q) 0)), (4, .ref (A 1)), (5, .int s.1), (6, .int v6_1951), (7, .int v7_1951), (8, .int r1955), (9, .int r1962), (10, .int r1970), (11, .int r1977), (12, .int s.2.1)]) s') []) : ∀ (σ_2453 : Wd) (v12_2453 : Int32) (v13_2453 : Int32) (t0_2453 : Int32), Y K (Zl V A q) (M_L_law_J2453 q σ_2453 v6_1951 v7_1951 r1955 r1962 r1970 r1977 v12_2453 v13_2453 t0_2453) E1985 σ_2453 2453 [(1, .ref (A 0)), (3, .ref (zA (Zl V A q) 0)), (4, .ref (A 1)), (6, .int v6_1951), (7, .int v7_1951), (8, .int r1955), (9, .int r1962), (10, .int r1970), (11, .int r1977), (12, .int v12_2453), (13, .int v13_2453)] [.int t0_2453] := by
  intro σ_2453 v12_2453 v13_2453 t0_2453
  unfold M_L_law_J2453
  refine x_istore C 2453 (L' := [(5, .int t0_2453), (1, .ref (A 0)), (3, .ref (zA (Zl V A q) 0)), (4, .ref (A 1)), (6, .int v6_1951), (7, .int v7_1951), (8, .int r1955), (9, .int r1962), (10, .int r1970), (11, .int r1977), (12, .int v12_2453), (13, .int v13_2453)]) dL_law_2453 (hN _ (Nat.le_of_ble_eq_true rfl)) rfl ?_
  refine x_iconst C 2455 dL_law_2455 ki_0 ?_
  refine x_istore C 2456 (L' := [(18, .int (0 : Int32)), (5, .int t0_2453), (1, .ref (A 0)), (3, .ref (zA (Zl V A q) 0)), (4, .ref (A 1)), (6, .int v6_1951), (7, .int v7_1951), (8, .int r1955), (9, .int r1962), (10, .int r1970), (11, .int r1977), (12, .int v12_2453), (13, .int v13_2453)]) dL_law_2456 (hN _ (Nat.le_of_ble_eq_true rfl)) rfl ?_
  have hJ2604 : ∀ (σ_2604 : Wd) (v5_2604 : Int32) (v12_2604 : Int32) (v13_2604 : Int32), Y K (Zl V A q) (M_L_law_J2604 q σ_2604 v5_2604 v6_1951 v7_1951 r1955 r1962 r1970 r1977 v12_2604 v13_2604) E1985 σ_2604 2604 [(1, .ref (A 0)), (3, .ref (zA (Zl V A q) 0)), (4, .ref (A 1)), (5, .int v5_2604), (6, .int v6_1951), (7, .int v7_1951), (8, .int r1955), (9, .int r1962), (10, .int r1970), (11, .int r1977), (12, .int v12_2604), (13, .int v13_2604)] [] := c_LJ2604 C hNW hN R hb1985
  refine Y_sub [2, 3, 4, 1, 5, 6, 7, 8, 9, 10, 11, 12, 0] rfl ?_
  refine x_loop 2458 (fun s : Int32 × Int32 × Wd => s.2.2) (fun s : Int32 × Int32 × Wd => [(1, .ref (A 0)), (3, .ref (zA (Zl V A q) 0)), (4, .ref (A 1)), (5, .int s.1), (6, .int v6_1951), (7, .int v7_1951), (8, .int r1955), (9, .int r1962), (10, .int r1970), (11, .int r1977), (12, .int v12_2453), (13, .int v13_2453), (18, .int s.2.1)]) (fun E2458 hb2458 hx2458 s => ?_) FU (t0_2453, (0 : Int32), σ_2453)
  obtain ⟨v5_2458, v18_2458, s_2458⟩ := s
  exact c_LL2458 C hNW hN R hx2458 hJ2604 hb2458 v5_2458 v18_2458 s_2458
set_option maxRecDepth 100000 in
set_option maxHeartbeats 40000000 in
theorem c_LJ2452 {V : Ct_V} {A : Nat → Nat} {q : Lq} {K : Kt} (C : Fx K (Zl V A q) cL_law RL 7 171) (hNW : ∀ w ∈ NWl, va_Nw w K.2.2.2.2.1) (hN : ∀ i, i < 30 → ∀ K2 : Kt, K = K2 → i < K2.2.2.2.2.2.2.2.2.2.2.1) (R : Lr K (Zl V A q)) {E1985 : ((Int32 × Int32 × Wd) ⊕ (Int32 × Wd)) → Prop} {r1955 : Int32} {r1962 : Int32} {r1970 : Int32} {r1977 : Int32} {v6_1951 : Int32} {v7_1951 : Int32} (hJ2453 : ∀ (σ_2453 : Wd) (v12_2453 : Int32) (v13_2453 : Int32) (t0_2453 : Int32), Y K (Zl V A q) (M_L_law_J2453 q σ_2453 v6_1951 v7_1951 r1955 r1962 r1970 r1977 v12_2453 v13_2453 t0_2453) E1985 σ_2453 2453 [(1, .ref (A 0)), (3, .ref (zA (Zl V A q) 0)), (4, .ref (A 1)), (6, .int v6_1951), (7, .int v7_1951), (8, .int r1955), (9, .int r1962), (10, .int r1970), (11, .int r1977), (12, .int v12_2453), (13, .int v13_2453)] [.int t0_2453]) : ∀ (σ_2452 : Wd) (v12_2452 : Int32) (v13_2452 : Int32), Y K (Zl V A q) (M_L_law_J2452 q σ_2452 v6_1951 v7_1951 r1955 r1962 r1970 r1977 v12_2452 v13_2452) E1985 σ_2452 2452 [(1, .ref (A 0)), (3, .ref (zA (Zl V A q) 0)), (4, .ref (A 1)), (6, .int v6_1951), (7, .int v7_1951), (8, .int r1955), (9, .int r1962), (10, .int r1970), (11, .int r1977), (12, .int v12_2452), (13, .int v13_2452)] [] := by
  intro σ_2452 v12_2452 v13_2452
  unfold M_L_law_J2452
  refine x_iconst C 2452 dL_law_2452 ki_0 ?_
  exact hJ2453 _ _ _ _
set_option maxRecDepth 100000 in
set_option maxHeartbeats 40000000 in
theorem c_LJ2448 {V : Ct_V} {A : Nat → Nat} {q : Lq} {K : Kt} (C : Fx K (Zl V A q) cL_law RL 7 171) (hNW : ∀ w ∈ NWl, va_Nw w K.2.2.2.2.1) (hN : ∀ i, i < 30 → ∀ K2 : Kt, K = K2 → i < K2.2.2.2.2.2.2.2.2.2.2.1) (R : Lr K (Zl V A q)) {E1985 : ((Int32 × Int32 × Wd) ⊕ (Int32 × Wd)) → Prop} {r1955 : Int32} {r1962 : Int32} {r1970 : Int32} {r1977 : Int32} {v6_1951 : Int32} {v7_1951 : Int32} (hJ2453 : ∀ (σ_2453 : Wd) (v12_2453 : Int32) (v13_2453 : Int32) (t0_2453 : Int32), Y K (Zl V A q) (M_L_law_J2453 q σ_2453 v6_1951 v7_1951 r1955 r1962 r1970 r1977 v12_2453 v13_2453 t0_2453) E1985 σ_2453 2453 [(1, .ref (A 0)), (3, .ref (zA (Zl V A q) 0)), (4, .ref (A 1)), (6, .int v6_1951), (7, .int v7_1951), (8, .int r1955), (9, .int r1962), (10, .int r1970), (11, .int r1977), (12, .int v12_2453), (13, .int v13_2453)] [.int t0_2453]) : ∀ (σ_2448 : Wd) (v12_2448 : Int32) (v13_2448 : Int32), Y K (Zl V A q) (M_L_law_J2448 q σ_2448 v6_1951 v7_1951 r1955 r1962 r1970 r1977 v12_2448 v13_2448) E1985 σ_2448 2448 [(1, .ref (A 0)), (3, .ref (zA (Zl V A q) 0)), (4, .ref (A 1)), (6, .int v6_1951), (7, .int v7_1951), (8, .int r1955), (9, .int r1962), (10, .int r1970), (11, .int r1977), (12, .int v12_2448), (13, .int v13_2448)] [] := by
  intro σ_2448 v12_2448 v13_2448
  unfold M_L_law_J2448
  refine x_iconst C 2448 dL_law_2448 ki_1 ?_
  refine x_goto C 2449 2453 dL_law_2449 (by decide) ?_
  exact hJ2453 _ _ _ _
set_option maxRecDepth 100000 in
set_option maxHeartbeats 40000000 in
theorem c_LJ2378 {V : Ct_V} {A : Nat → Nat} {q : Lq} {K : Kt} (C : Fx K (Zl V A q) cL_law RL 7 171) (hNW : ∀ w ∈ NWl, va_Nw w K.2.2.2.2.1) (hN : ∀ i, i < 30 → ∀ K2 : Kt, K = K2 → i < K2.2.2.2.2.2.2.2.2.2.2.1) (R : Lr K (Zl V A q)) {E1985 : ((Int32 × Int32 × Wd) ⊕ (Int32 × Wd)) → Prop} {r1955 : Int32} {r1962 : Int32} {r1970 : Int32} {r1977 : Int32} {v6_1951 : Int32} {v7_1951 : Int32} (hJ2452 : ∀ (σ_2452 : Wd) (v12_2452 : Int32) (v13_2452 : Int32), Y K (Zl V A q) (M_L_law_J2452 q σ_2452 v6_1951 v7_1951 r1955 r1962 r1970 r1977 v12_2452 v13_2452) E1985 σ_2452 2452 [(1, .ref (A 0)), (3, .ref (zA (Zl V A q) 0)), (4, .ref (A 1)), (6, .int v6_1951), (7, .int v7_1951), (8, .int r1955), (9, .int r1962), (10, .int r1970), (11, .int r1977), (12, .int v12_2452), (13, .int v13_2452)] []) (hJ2453 : ∀ (σ_2453 : Wd) (v12_2453 : Int32) (v13_2453 : Int32) (t0_2453 : Int32), Y K (Zl V A q) (M_L_law_J2453 q σ_2453 v6_1951 v7_1951 r1955 r1962 r1970 r1977 v12_2453 v13_2453 t0_2453) E1985 σ_2453 2453 [(1, .ref (A 0)), (3, .ref (zA (Zl V A q) 0)), (4, .ref (A 1)), (6, .int v6_1951), (7, .int v7_1951), (8, .int r1955), (9, .int r1962), (10, .int r1970), (11, .int r1977), (12, .int v12_2453), (13, .int v13_2453)] [.int t0_2453]) : ∀ (σ_2378 : Wd) (v12_2378 : Int32) (v13_2378 : Int32), Y K (Zl V A q) (M_L_law_J2378 q σ_2378 v6_1951 v7_1951 r1955 r1962 r1970 r1977 v12_2378 v13_2378) E1985 σ_2378 2378 [(1, .ref (A 0)), (3, .ref (zA (Zl V A q) 0)), (4, .ref (A 1)), (6, .int v6_1951), (7, .int v7_1951), (8, .int r1955), (9, .int r1962), (10, .int r1970), (11, .int r1977), (12, .int v12_2378), (13, .int v13_2378)] [] := by
  intro σ_2378 v12_2378 v13_2378
  unfold M_L_law_J2378
  refine x_aload_n C 2378 1 dL_law_2378 rfl ?_
  refine x_iload C 2379 9 dL_law_2379 rfl ?_
  refine x_iload C 2381 9 dL_law_2381 rfl ?_
  refine Y_bnd1 (fun r2383 h2383 => ?_)
  refine x_callLV C 2383 [.int v12_2378, .int v12_2378] [] rfl tw_967 mv_X8_lacks rfl (Nat.le_of_ble_eq_true rfl) (Nat.le_of_ble_eq_true rfl) (Nat.le_of_ble_eq_true rfl) dL_law_2383 (c_X8_lacks V _ _ _ _ h2383) ?_
  refine x_if_ne C 2386 2452 dL_law_2386 (by decide) (fun _ => ?_) (fun _ => ?_)
  · exact hJ2452 _ _ _
  · refine x_aload_n C 2389 1 dL_law_2389 rfl ?_
    refine x_iload C 2390 9 dL_law_2390 rfl ?_
    refine x_iload C 2392 9 dL_law_2392 rfl ?_
    refine Y_bnd1 (fun r2394 h2394 => ?_)
    refine x_callLV C 2394 [.int v12_2378, .int v12_2378] [] rfl tw_984 mv_X8_alike rfl (Nat.le_of_ble_eq_true rfl) (Nat.le_of_ble_eq_true rfl) (Nat.le_of_ble_eq_true rfl) dL_law_2394 (c_X8_alike V _ _ _ _ h2394) ?_
    refine x_iconst C 2397 dL_law_2397 ki_1 ?_
    refine x_icmp_ne C 2398 2452 dL_law_2398 (by decide) (fun _ => ?_) (fun _ => ?_)
    · exact hJ2452 _ _ _
    · refine x_aload_n C 2401 1 dL_law_2401 rfl ?_
      refine x_iload C 2402 9 dL_law_2402 rfl ?_
      refine x_iload C 2404 9 dL_law_2404 rfl ?_
      refine Y_bnd2 (fun r2406 s_2406 h2406 => ?_)
      refine x_callLV C 2406 [.int v12_2378, .int v12_2378] [] rfl tw_980 mv_X8_differ rfl (Nat.le_of_ble_eq_true rfl) (Nat.le_of_ble_eq_true rfl) (Nat.le_of_ble_eq_true rfl) dL_law_2406 (c_X8_differ V _ _ _ _ h2406) ?_
      refine x_if_ne C 2409 2452 dL_law_2409 (by decide) (fun _ => ?_) (fun _ => ?_)
      · exact hJ2452 _ _ _
      · refine x_aload_n C 2412 1 dL_law_2412 rfl ?_
        refine x_iload C 2413 9 dL_law_2413 rfl ?_
        refine x_iload C 2415 9 dL_law_2415 rfl ?_
        refine Y_bnd2 (fun r2417 s_2417 h2417 => ?_)
        refine x_callLV C 2417 [.int v12_2378, .int v12_2378] [] rfl tw_1008 mv_X8_fork rfl (Nat.le_of_ble_eq_true rfl) (Nat.le_of_ble_eq_true rfl) (Nat.le_of_ble_eq_true rfl) dL_law_2417 (c_X8_fork V _ _ _ _ h2417) ?_
        refine x_iload C 2420 10 dL_law_2420 rfl ?_
        refine x_icmp_ne C 2422 2452 dL_law_2422 (by decide) (fun _ => ?_) (fun _ => ?_)
        · exact hJ2452 _ _ _
        · refine x_iload C 2425 5 dL_law_2425 rfl ?_
          have hJ2448 : ∀ (σ_2448 : Wd) (v12_2448 : Int32) (v13_2448 : Int32), Y K (Zl V A q) (M_L_law_J2448 q σ_2448 v6_1951 v7_1951 r1955 r1962 r1970 r1977 v12_2448 v13_2448) E1985 σ_2448 2448 [(1, .ref (A 0)), (3, .ref (zA (Zl V A q) 0)), (4, .ref (A 1)), (6, .int v6_1951), (7, .int v7_1951), (8, .int r1955), (9, .int r1962), (10, .int r1970), (11, .int r1977), (12, .int v12_2448), (13, .int v13_2448)] [] := c_LJ2448 C hNW hN R hJ2453
          refine x_if_eq C 2427 2448 dL_law_2427 (by decide) (fun _ => ?_) (fun _ => ?_)
          · exact hJ2448 _ _ _
          · refine x_aload_n C 2430 1 dL_law_2430 rfl ?_
            refine x_iload C 2431 9 dL_law_2431 rfl ?_
            refine Y_bnd1 (fun r2433 h2433 => ?_)
            refine x_callLV C 2433 [.int v12_2378] [] rfl tw_1017 mv_X8_share rfl (Nat.le_of_ble_eq_true rfl) (Nat.le_of_ble_eq_true rfl) (Nat.le_of_ble_eq_true rfl) dL_law_2433 (c_X8_share V _ _ _ h2433) ?_
            refine x_sipush C 2436 dL_law_2436 ks_1000 ?_
            refine x_iload C 2439 10 dL_law_2439 rfl ?_
            refine x_imul C 2441 dL_law_2441 ?_
            refine x_iload C 2442 5 dL_law_2442 rfl ?_
            refine Y_chk (fun q2444 => ?_)
            refine x_idiv C 2444 dL_law_2444 q2444 ?_
            refine x_icmp_ne C 2445 2452 dL_law_2445 (by decide) (fun _ => ?_) (fun _ => ?_)
            · exact hJ2452 _ _ _
            · exact hJ2448 _ _ _
set_option maxRecDepth 100000 in
set_option maxHeartbeats 40000000 in
theorem c_LJ2300 {V : Ct_V} {A : Nat → Nat} {q : Lq} {K : Kt} (C : Fx K (Zl V A q) cL_law RL 7 171) (hNW : ∀ w ∈ NWl, va_Nw w K.2.2.2.2.1) (hN : ∀ i, i < 30 → ∀ K2 : Kt, K = K2 → i < K2.2.2.2.2.2.2.2.2.2.2.1) (R : Lr K (Zl V A q)) {E1985 : ((Int32 × Int32 × Wd) ⊕ (Int32 × Wd)) → Prop} {r1955 : Int32} {r1962 : Int32} {r1970 : Int32} {r1977 : Int32} {v6_1951 : Int32} {v7_1951 : Int32} (hb1985 : ∀ s' : Int32 × Int32 × Wd, E1985 (.inl s') → Go K (Zl V A q) ((fun s : Int32 × Int32 × Wd => s.2.2) s') 1985 ((fun s : Int32 × Int32 × Wd => [(1, .ref (A 0)), (3, .ref (zA (Zl V A q) 0)), (4, .ref (A 1)), (5, .int s.1), (6, .int v6_1951), (7, .int v7_1951), (8, .int r1955), (9, .int r1962), (10, .int r1970), (11, .int r1977), (12, .int s.2.1)]) s') []) : ∀ (σ_2300 : Wd) (v5_2300 : Int32) (v12_2300 : Int32) (v13_2300 : Int32) (v14_2300 : Int32) (v15_2300 : Int32) (v16_2300 : Int32) (v17_2300 : Int32), Y K (Zl V A q) (M_L_law_J2300 q σ_2300 v5_2300 v6_1951 v7_1951 r1955 r1962 r1970 r1977 v12_2300 v13_2300 v14_2300 v15_2300 v16_2300 v17_2300) E1985 σ_2300 2300 [(1, .ref (A 0)), (3, .ref (zA (Zl V A q) 0)), (4, .ref (A 1)), (5, .int v5_2300), (6, .int v6_1951), (7, .int v7_1951), (8, .int r1955), (9, .int r1962), (10, .int r1970), (11, .int r1977), (12, .int v12_2300), (13, .int v13_2300), (14, .int v14_2300), (15, .int v15_2300), (16, .int v16_2300), (17, .int v17_2300)] [] := by
  intro σ_2300 v5_2300 v12_2300 v13_2300 v14_2300 v15_2300 v16_2300 v17_2300
  unfold M_L_law_J2300
  refine x_iload C 2300 3 dL_law_2300 rfl ?_
  have hJ2453 : ∀ (σ_2453 : Wd) (v12_2453 : Int32) (v13_2453 : Int32) (t0_2453 : Int32), Y K (Zl V A q) (M_L_law_J2453 q σ_2453 v6_1951 v7_1951 r1955 r1962 r1970 r1977 v12_2453 v13_2453 t0_2453) E1985 σ_2453 2453 [(1, .ref (A 0)), (3, .ref (zA (Zl V A q) 0)), (4, .ref (A 1)), (6, .int v6_1951), (7, .int v7_1951), (8, .int r1955), (9, .int r1962), (10, .int r1970), (11, .int r1977), (12, .int v12_2453), (13, .int v13_2453)] [.int t0_2453] := c_LJ2453 C hNW hN R hb1985
  have hJ2452 : ∀ (σ_2452 : Wd) (v12_2452 : Int32) (v13_2452 : Int32), Y K (Zl V A q) (M_L_law_J2452 q σ_2452 v6_1951 v7_1951 r1955 r1962 r1970 r1977 v12_2452 v13_2452) E1985 σ_2452 2452 [(1, .ref (A 0)), (3, .ref (zA (Zl V A q) 0)), (4, .ref (A 1)), (6, .int v6_1951), (7, .int v7_1951), (8, .int r1955), (9, .int r1962), (10, .int r1970), (11, .int r1977), (12, .int v12_2452), (13, .int v13_2452)] [] := c_LJ2452 C hNW hN R hJ2453
  refine x_if_eq C 2302 2452 dL_law_2302 (by decide) (fun _ => ?_) (fun _ => ?_)
  · refine Y_sub [0, 1, 2, 4, 5, 6, 7, 8, 9, 10, 11] rfl ?_
    exact hJ2452 _ _ _
  · refine x_iload C 2305 12 dL_law_2305 rfl ?_
    refine x_aload_n C 2307 1 dL_law_2307 rfl ?_
    refine x_iload C 2308 10 dL_law_2308 rfl ?_
    refine x_bipush C 2310 dL_law_2310 kb_7 ?_
    refine Y_bnd2 (fun r2312 s_2312 h2312 => ?_)
    refine x_callLV C 2312 [.int v12_2300, .int (7 : Int32)] [.int v14_2300] rfl tw_917 mv_X8_copy rfl (Nat.le_of_ble_eq_true rfl) (Nat.le_of_ble_eq_true rfl) (Nat.le_of_ble_eq_true rfl) dL_law_2312 (c_X8_copy V _ _ _ _ h2312) ?_
    refine x_icmp_ne C 2315 2452 dL_law_2315 (by decide) (fun _ => ?_) (fun _ => ?_)
    · refine Y_sub [0, 1, 2, 4, 5, 6, 7, 8, 9, 10, 11] rfl ?_
      exact hJ2452 _ _ _
    · refine x_iload C 2318 13 dL_law_2318 rfl ?_
      refine x_aload_n C 2320 1 dL_law_2320 rfl ?_
      refine x_iload C 2321 10 dL_law_2321 rfl ?_
      refine x_bipush C 2323 dL_law_2323 kb_8 ?_
      refine Y_bnd2 (fun r2325 s_2325 h2325 => ?_)
      refine x_callLV C 2325 [.int v12_2300, .int (8 : Int32)] [.int v15_2300] rfl tw_917 mv_X8_copy rfl (Nat.le_of_ble_eq_true rfl) (Nat.le_of_ble_eq_true rfl) (Nat.le_of_ble_eq_true rfl) dL_law_2325 (c_X8_copy V _ _ _ _ h2325) ?_
      refine x_icmp_ne C 2328 2452 dL_law_2328 (by decide) (fun _ => ?_) (fun _ => ?_)
      · refine Y_sub [0, 1, 2, 4, 5, 6, 7, 8, 9, 10, 11] rfl ?_
        exact hJ2452 _ _ _
      · refine x_iload C 2331 14 dL_law_2331 rfl ?_
        refine x_aload_n C 2333 1 dL_law_2333 rfl ?_
        refine x_iload C 2334 10 dL_law_2334 rfl ?_
        refine Y_bnd2 (fun r2336 s_2336 h2336 => ?_)
        refine x_callLV C 2336 [.int v12_2300] [.int v16_2300] rfl tw_1065 mv_X8_clash rfl (Nat.le_of_ble_eq_true rfl) (Nat.le_of_ble_eq_true rfl) (Nat.le_of_ble_eq_true rfl) dL_law_2336 (c_X8_clash V _ _ _ h2336) ?_
        refine x_icmp_ne C 2339 2452 dL_law_2339 (by decide) (fun _ => ?_) (fun _ => ?_)
        · refine Y_sub [0, 1, 2, 4, 5, 6, 7, 8, 9, 10, 11] rfl ?_
          exact hJ2452 _ _ _
        · refine x_aload_n C 2342 1 dL_law_2342 rfl ?_
          refine x_iload C 2343 10 dL_law_2343 rfl ?_
          refine x_iconst C 2345 dL_law_2345 ki_1 ?_
          refine Y_bnd2 (fun r2346 s_2346 h2346 => ?_)
          refine x_callLV C 2346 [.int v12_2300, .int (1 : Int32)] [] rfl tw_1013 mv_X8_key rfl (Nat.le_of_ble_eq_true rfl) (Nat.le_of_ble_eq_true rfl) (Nat.le_of_ble_eq_true rfl) dL_law_2346 (c_X8_key V _ _ _ _ h2346) ?_
          refine x_iload C 2349 15 dL_law_2349 rfl ?_
          refine x_icmp_ne C 2351 2452 dL_law_2351 (by decide) (fun _ => ?_) (fun _ => ?_)
          · refine Y_sub [0, 1, 2, 4, 5, 6, 7, 8, 9, 10, 11] rfl ?_
            exact hJ2452 _ _ _
          · refine x_iload C 2354 15 dL_law_2354 rfl ?_
            have hJ2378 : ∀ (σ_2378 : Wd) (v12_2378 : Int32) (v13_2378 : Int32), Y K (Zl V A q) (M_L_law_J2378 q σ_2378 v6_1951 v7_1951 r1955 r1962 r1970 r1977 v12_2378 v13_2378) E1985 σ_2378 2378 [(1, .ref (A 0)), (3, .ref (zA (Zl V A q) 0)), (4, .ref (A 1)), (6, .int v6_1951), (7, .int v7_1951), (8, .int r1955), (9, .int r1962), (10, .int r1970), (11, .int r1977), (12, .int v12_2378), (13, .int v13_2378)] [] := c_LJ2378 C hNW hN R hJ2452 hJ2453
            refine x_if_lt C 2356 2378 dL_law_2356 (by decide) (fun _ => ?_) (fun _ => ?_)
            · refine Y_sub [0, 1, 2, 4, 5, 6, 7, 8, 9, 10, 11] rfl ?_
              exact hJ2378 _ _ _
            · refine x_aload_n C 2359 1 dL_law_2359 rfl ?_
              refine x_iload C 2360 10 dL_law_2360 rfl ?_
              refine x_aload_n C 2362 1 dL_law_2362 rfl ?_
              refine x_iload C 2363 10 dL_law_2363 rfl ?_
              refine x_iconst C 2365 dL_law_2365 ki_0 ?_
              refine Y_bnd2 (fun r2366 s_2366 h2366 => ?_)
              refine x_callLV C 2366 [.int v12_2300, .int (0 : Int32)] [.int v12_2300, .ref (zA (Zl V A q) 0)] rfl tw_1013 mv_X8_key rfl (Nat.le_of_ble_eq_true rfl) (Nat.le_of_ble_eq_true rfl) (Nat.le_of_ble_eq_true rfl) dL_law_2366 (c_X8_key V _ _ _ _ h2366) ?_
              refine x_iconst C 2369 dL_law_2369 ki_0 ?_
              refine Y_bnd2 (fun r2370 s_2370 h2370 => ?_)
              refine x_callLV C 2370 [.int v12_2300, .int r2366, .int (0 : Int32)] [] rfl tw_992 mv_X8_hangs rfl (Nat.le_of_ble_eq_true rfl) (Nat.le_of_ble_eq_true rfl) (Nat.le_of_ble_eq_true rfl) dL_law_2370 (c_X8_hangs V _ _ _ _ _ h2370) ?_
              refine x_iload C 2373 15 dL_law_2373 rfl ?_
              refine x_icmp_ne C 2375 2452 dL_law_2375 (by decide) (fun _ => ?_) (fun _ => ?_)
              · refine Y_sub [0, 1, 2, 4, 5, 6, 7, 8, 9, 10, 11] rfl ?_
                exact hJ2452 _ _ _
              · refine Y_sub [0, 1, 2, 4, 5, 6, 7, 8, 9, 10, 11] rfl ?_
                exact hJ2378 _ _ _
set_option maxRecDepth 100000 in
set_option maxHeartbeats 40000000 in
theorem c_LJ2292 {V : Ct_V} {A : Nat → Nat} {q : Lq} {K : Kt} (C : Fx K (Zl V A q) cL_law RL 7 171) (hNW : ∀ w ∈ NWl, va_Nw w K.2.2.2.2.1) (hN : ∀ i, i < 30 → ∀ K2 : Kt, K = K2 → i < K2.2.2.2.2.2.2.2.2.2.2.1) (R : Lr K (Zl V A q)) {E2026 : ((Int32 × Int32 × Int32 × Int32 × Int32 × Int32 × Wd) ⊕ (Int32 × Int32 × Int32 × Int32 × Int32 × Wd)) → Prop} {r1955 : Int32} {r1962 : Int32} {r1970 : Int32} {r1977 : Int32} {r2001 : Int32} {v12_1985 : Int32} {v6_1951 : Int32} {v7_1951 : Int32} (hb2026 : ∀ s' : Int32 × Int32 × Int32 × Int32 × Int32 × Int32 × Wd, E2026 (.inl s') → Go K (Zl V A q) ((fun s : Int32 × Int32 × Int32 × Int32 × Int32 × Int32 × Wd => s.2.2.2.2.2.2) s') 2026 ((fun s : Int32 × Int32 × Int32 × Int32 × Int32 × Int32 × Wd => [(1, .ref (A 0)), (3, .ref (zA (Zl V A q) 0)), (4, .ref (A 1)), (5, .int s.1), (6, .int v6_1951), (7, .int v7_1951), (8, .int r1955), (9, .int r1962), (10, .int r1970), (11, .int r1977), (12, .int v12_1985), (13, .int r2001), (14, .int s.2.1), (15, .int s.2.2.1), (16, .int s.2.2.2.1), (17, .int s.2.2.2.2.1), (18, .int s.2.2.2.2.2.1)]) s') []) : ∀ (σ_2292 : Wd) (v14_2292 : Int32) (v15_2292 : Int32) (v16_2292 : Int32) (v17_2292 : Int32) (v18_2292 : Int32) (t0_2292 : Int32), Y K (Zl V A q) (M_L_law_J2292 q σ_2292 v6_1951 v7_1951 r1955 r1962 r1970 r1977 v12_1985 r2001 v14_2292 v15_2292 v16_2292 v17_2292 v18_2292 t0_2292) E2026 σ_2292 2292 [(1, .ref (A 0)), (3, .ref (zA (Zl V A q) 0)), (4, .ref (A 1)), (6, .int v6_1951), (7, .int v7_1951), (8, .int r1955), (9, .int r1962), (10, .int r1970), (11, .int r1977), (12, .int v12_1985), (13, .int r2001), (14, .int v14_2292), (15, .int v15_2292), (16, .int v16_2292), (17, .int v17_2292), (18, .int v18_2292)] [.int t0_2292] := by
  intro σ_2292 v14_2292 v15_2292 v16_2292 v17_2292 v18_2292 t0_2292
  unfold M_L_law_J2292
  refine x_istore C 2292 (L' := [(5, .int t0_2292), (1, .ref (A 0)), (3, .ref (zA (Zl V A q) 0)), (4, .ref (A 1)), (6, .int v6_1951), (7, .int v7_1951), (8, .int r1955), (9, .int r1962), (10, .int r1970), (11, .int r1977), (12, .int v12_1985), (13, .int r2001), (14, .int v14_2292), (15, .int v15_2292), (16, .int v16_2292), (17, .int v17_2292), (18, .int v18_2292)]) dL_law_2292 (hN _ (Nat.le_of_ble_eq_true rfl)) rfl ?_
  refine x_iinct C 2294 16 (-1 : Int32) (fun v18_2294 => [(18, .int v18_2294), (5, .int t0_2292), (1, .ref (A 0)), (3, .ref (zA (Zl V A q) 0)), (4, .ref (A 1)), (6, .int v6_1951), (7, .int v7_1951), (8, .int r1955), (9, .int r1962), (10, .int r1970), (11, .int r1977), (12, .int v12_1985), (13, .int r2001), (14, .int v14_2292), (15, .int v15_2292), (16, .int v16_2292), (17, .int v17_2292)]) dL_law_2294 rfl ki_m1 (hN _ (Nat.le_of_ble_eq_true rfl)) (fun _ => rfl) (fun v18_2294 => ?_)
  refine x_goto C 2297 2026 dL_law_2297 (by decide) ?_
  refine Y_sub [2, 3, 4, 1, 5, 6, 7, 8, 9, 10, 11, 12, 13, 14, 15, 16, 0] rfl ?_
  exact x_back (t0_2292, v14_2292, v15_2292, v16_2292, v17_2292, v18_2294, σ_2292) (hb2026 (t0_2292, v14_2292, v15_2292, v16_2292, v17_2292, v18_2294, σ_2292))
set_option maxRecDepth 100000 in
set_option maxHeartbeats 40000000 in
theorem c_LJ2291 {V : Ct_V} {A : Nat → Nat} {q : Lq} {K : Kt} (C : Fx K (Zl V A q) cL_law RL 7 171) (hNW : ∀ w ∈ NWl, va_Nw w K.2.2.2.2.1) (hN : ∀ i, i < 30 → ∀ K2 : Kt, K = K2 → i < K2.2.2.2.2.2.2.2.2.2.2.1) (R : Lr K (Zl V A q)) {E2026 : ((Int32 × Int32 × Int32 × Int32 × Int32 × Int32 × Wd) ⊕ (Int32 × Int32 × Int32 × Int32 × Int32 × Wd)) → Prop} {r1955 : Int32} {r1962 : Int32} {r1970 : Int32} {r1977 : Int32} {r2001 : Int32} {v12_1985 : Int32} {v6_1951 : Int32} {v7_1951 : Int32} (hJ2292 : ∀ (σ_2292 : Wd) (v14_2292 : Int32) (v15_2292 : Int32) (v16_2292 : Int32) (v17_2292 : Int32) (v18_2292 : Int32) (t0_2292 : Int32), Y K (Zl V A q) (M_L_law_J2292 q σ_2292 v6_1951 v7_1951 r1955 r1962 r1970 r1977 v12_1985 r2001 v14_2292 v15_2292 v16_2292 v17_2292 v18_2292 t0_2292) E2026 σ_2292 2292 [(1, .ref (A 0)), (3, .ref (zA (Zl V A q) 0)), (4, .ref (A 1)), (6, .int v6_1951), (7, .int v7_1951), (8, .int r1955), (9, .int r1962), (10, .int r1970), (11, .int r1977), (12, .int v12_1985), (13, .int r2001), (14, .int v14_2292), (15, .int v15_2292), (16, .int v16_2292), (17, .int v17_2292), (18, .int v18_2292)] [.int t0_2292]) : ∀ (σ_2291 : Wd) (v14_2291 : Int32) (v15_2291 : Int32) (v16_2291 : Int32) (v17_2291 : Int32) (v18_2291 : Int32), Y K (Zl V A q) (M_L_law_J2291 q σ_2291 v6_1951 v7_1951 r1955 r1962 r1970 r1977 v12_1985 r2001 v14_2291 v15_2291 v16_2291 v17_2291 v18_2291) E2026 σ_2291 2291 [(1, .ref (A 0)), (3, .ref (zA (Zl V A q) 0)), (4, .ref (A 1)), (6, .int v6_1951), (7, .int v7_1951), (8, .int r1955), (9, .int r1962), (10, .int r1970), (11, .int r1977), (12, .int v12_1985), (13, .int r2001), (14, .int v14_2291), (15, .int v15_2291), (16, .int v16_2291), (17, .int v17_2291), (18, .int v18_2291)] [] := by
  intro σ_2291 v14_2291 v15_2291 v16_2291 v17_2291 v18_2291
  unfold M_L_law_J2291
  refine x_iconst C 2291 dL_law_2291 ki_0 ?_
  exact hJ2292 _ _ _ _ _ _ _
set_option maxRecDepth 100000 in
set_option maxHeartbeats 40000000 in
theorem c_LJ2287 {V : Ct_V} {A : Nat → Nat} {q : Lq} {K : Kt} (C : Fx K (Zl V A q) cL_law RL 7 171) (hNW : ∀ w ∈ NWl, va_Nw w K.2.2.2.2.1) (hN : ∀ i, i < 30 → ∀ K2 : Kt, K = K2 → i < K2.2.2.2.2.2.2.2.2.2.2.1) (R : Lr K (Zl V A q)) {E2026 : ((Int32 × Int32 × Int32 × Int32 × Int32 × Int32 × Wd) ⊕ (Int32 × Int32 × Int32 × Int32 × Int32 × Wd)) → Prop} {r1955 : Int32} {r1962 : Int32} {r1970 : Int32} {r1977 : Int32} {r2001 : Int32} {v12_1985 : Int32} {v6_1951 : Int32} {v7_1951 : Int32} (hJ2292 : ∀ (σ_2292 : Wd) (v14_2292 : Int32) (v15_2292 : Int32) (v16_2292 : Int32) (v17_2292 : Int32) (v18_2292 : Int32) (t0_2292 : Int32), Y K (Zl V A q) (M_L_law_J2292 q σ_2292 v6_1951 v7_1951 r1955 r1962 r1970 r1977 v12_1985 r2001 v14_2292 v15_2292 v16_2292 v17_2292 v18_2292 t0_2292) E2026 σ_2292 2292 [(1, .ref (A 0)), (3, .ref (zA (Zl V A q) 0)), (4, .ref (A 1)), (6, .int v6_1951), (7, .int v7_1951), (8, .int r1955), (9, .int r1962), (10, .int r1970), (11, .int r1977), (12, .int v12_1985), (13, .int r2001), (14, .int v14_2292), (15, .int v15_2292), (16, .int v16_2292), (17, .int v17_2292), (18, .int v18_2292)] [.int t0_2292]) : ∀ (σ_2287 : Wd) (v14_2287 : Int32) (v15_2287 : Int32) (v16_2287 : Int32) (v17_2287 : Int32) (v18_2287 : Int32), Y K (Zl V A q) (M_L_law_J2287 q σ_2287 v6_1951 v7_1951 r1955 r1962 r1970 r1977 v12_1985 r2001 v14_2287 v15_2287 v16_2287 v17_2287 v18_2287) E2026 σ_2287 2287 [(1, .ref (A 0)), (3, .ref (zA (Zl V A q) 0)), (4, .ref (A 1)), (6, .int v6_1951), (7, .int v7_1951), (8, .int r1955), (9, .int r1962), (10, .int r1970), (11, .int r1977), (12, .int v12_1985), (13, .int r2001), (14, .int v14_2287), (15, .int v15_2287), (16, .int v16_2287), (17, .int v17_2287), (18, .int v18_2287)] [] := by
  intro σ_2287 v14_2287 v15_2287 v16_2287 v17_2287 v18_2287
  unfold M_L_law_J2287
  refine x_iconst C 2287 dL_law_2287 ki_1 ?_
  refine x_goto C 2288 2292 dL_law_2288 (by decide) ?_
  exact hJ2292 _ _ _ _ _ _ _
set_option maxRecDepth 100000 in
set_option maxHeartbeats 40000000 in
theorem c_LJ2276 {V : Ct_V} {A : Nat → Nat} {q : Lq} {K : Kt} (C : Fx K (Zl V A q) cL_law RL 7 171) (hNW : ∀ w ∈ NWl, va_Nw w K.2.2.2.2.1) (hN : ∀ i, i < 30 → ∀ K2 : Kt, K = K2 → i < K2.2.2.2.2.2.2.2.2.2.2.1) (R : Lr K (Zl V A q)) {E2026 : ((Int32 × Int32 × Int32 × Int32 × Int32 × Int32 × Wd) ⊕ (Int32 × Int32 × Int32 × Int32 × Int32 × Wd)) → Prop} {r1955 : Int32} {r1962 : Int32} {r1970 : Int32} {r1977 : Int32} {r2001 : Int32} {v12_1985 : Int32} {v6_1951 : Int32} {v7_1951 : Int32} (hJ2292 : ∀ (σ_2292 : Wd) (v14_2292 : Int32) (v15_2292 : Int32) (v16_2292 : Int32) (v17_2292 : Int32) (v18_2292 : Int32) (t0_2292 : Int32), Y K (Zl V A q) (M_L_law_J2292 q σ_2292 v6_1951 v7_1951 r1955 r1962 r1970 r1977 v12_1985 r2001 v14_2292 v15_2292 v16_2292 v17_2292 v18_2292 t0_2292) E2026 σ_2292 2292 [(1, .ref (A 0)), (3, .ref (zA (Zl V A q) 0)), (4, .ref (A 1)), (6, .int v6_1951), (7, .int v7_1951), (8, .int r1955), (9, .int r1962), (10, .int r1970), (11, .int r1977), (12, .int v12_1985), (13, .int r2001), (14, .int v14_2292), (15, .int v15_2292), (16, .int v16_2292), (17, .int v17_2292), (18, .int v18_2292)] [.int t0_2292]) (hJ2291 : ∀ (σ_2291 : Wd) (v14_2291 : Int32) (v15_2291 : Int32) (v16_2291 : Int32) (v17_2291 : Int32) (v18_2291 : Int32), Y K (Zl V A q) (M_L_law_J2291 q σ_2291 v6_1951 v7_1951 r1955 r1962 r1970 r1977 v12_1985 r2001 v14_2291 v15_2291 v16_2291 v17_2291 v18_2291) E2026 σ_2291 2291 [(1, .ref (A 0)), (3, .ref (zA (Zl V A q) 0)), (4, .ref (A 1)), (6, .int v6_1951), (7, .int v7_1951), (8, .int r1955), (9, .int r1962), (10, .int r1970), (11, .int r1977), (12, .int v12_1985), (13, .int r2001), (14, .int v14_2291), (15, .int v15_2291), (16, .int v16_2291), (17, .int v17_2291), (18, .int v18_2291)] []) : ∀ (σ_2276 : Wd) (v14_2276 : Int32) (v15_2276 : Int32) (v16_2276 : Int32) (v17_2276 : Int32) (v18_2276 : Int32) (v20_2276 : Int32) (v21_2276 : Int32), Y K (Zl V A q) (M_L_law_J2276 q σ_2276 v6_1951 v7_1951 r1955 r1962 r1970 r1977 v12_1985 r2001 v14_2276 v15_2276 v16_2276 v17_2276 v18_2276 v20_2276 v21_2276) E2026 σ_2276 2276 [(1, .ref (A 0)), (3, .ref (zA (Zl V A q) 0)), (4, .ref (A 1)), (6, .int v6_1951), (7, .int v7_1951), (8, .int r1955), (9, .int r1962), (10, .int r1970), (11, .int r1977), (12, .int v12_1985), (13, .int r2001), (14, .int v14_2276), (15, .int v15_2276), (16, .int v16_2276), (17, .int v17_2276), (18, .int v18_2276), (20, .int v20_2276), (21, .int v21_2276)] [] := by
  intro σ_2276 v14_2276 v15_2276 v16_2276 v17_2276 v18_2276 v20_2276 v21_2276
  unfold M_L_law_J2276
  refine x_iload C 2276 17 dL_law_2276 rfl ?_
  have hJ2287 : ∀ (σ_2287 : Wd) (v14_2287 : Int32) (v15_2287 : Int32) (v16_2287 : Int32) (v17_2287 : Int32) (v18_2287 : Int32), Y K (Zl V A q) (M_L_law_J2287 q σ_2287 v6_1951 v7_1951 r1955 r1962 r1970 r1977 v12_1985 r2001 v14_2287 v15_2287 v16_2287 v17_2287 v18_2287) E2026 σ_2287 2287 [(1, .ref (A 0)), (3, .ref (zA (Zl V A q) 0)), (4, .ref (A 1)), (6, .int v6_1951), (7, .int v7_1951), (8, .int r1955), (9, .int r1962), (10, .int r1970), (11, .int r1977), (12, .int v12_1985), (13, .int r2001), (14, .int v14_2287), (15, .int v15_2287), (16, .int v16_2287), (17, .int v17_2287), (18, .int v18_2287)] [] := c_LJ2287 C hNW hN R hJ2292
  refine x_if_eq C 2278 2287 dL_law_2278 (by decide) (fun _ => ?_) (fun _ => ?_)
  · refine Y_sub [0, 1, 2, 3, 4, 5, 6, 7, 8, 9, 10, 11, 12, 13, 14, 15] rfl ?_
    exact hJ2287 _ _ _ _ _ _
  · refine x_iload C 2281 16 dL_law_2281 rfl ?_
    refine x_iconst C 2283 dL_law_2283 ki_2 ?_
    refine x_icmp_ge C 2284 2291 dL_law_2284 (by decide) (fun _ => ?_) (fun _ => ?_)
    · refine Y_sub [0, 1, 2, 3, 4, 5, 6, 7, 8, 9, 10, 11, 12, 13, 14, 15] rfl ?_
      exact hJ2291 _ _ _ _ _ _
    · refine Y_sub [0, 1, 2, 3, 4, 5, 6, 7, 8, 9, 10, 11, 12, 13, 14, 15] rfl ?_
      exact hJ2287 _ _ _ _ _ _
set_option maxRecDepth 100000 in
set_option maxHeartbeats 40000000 in
theorem c_LJ2247 {V : Ct_V} {A : Nat → Nat} {q : Lq} {K : Kt} (C : Fx K (Zl V A q) cL_law RL 7 171) (hNW : ∀ w ∈ NWl, va_Nw w K.2.2.2.2.1) (hN : ∀ i, i < 30 → ∀ K2 : Kt, K = K2 → i < K2.2.2.2.2.2.2.2.2.2.2.1) (R : Lr K (Zl V A q)) {E2026 : ((Int32 × Int32 × Int32 × Int32 × Int32 × Int32 × Wd) ⊕ (Int32 × Int32 × Int32 × Int32 × Int32 × Wd)) → Prop} {r1955 : Int32} {r1962 : Int32} {r1970 : Int32} {r1977 : Int32} {r2001 : Int32} {v12_1985 : Int32} {v6_1951 : Int32} {v7_1951 : Int32} (hJ2291 : ∀ (σ_2291 : Wd) (v14_2291 : Int32) (v15_2291 : Int32) (v16_2291 : Int32) (v17_2291 : Int32) (v18_2291 : Int32), Y K (Zl V A q) (M_L_law_J2291 q σ_2291 v6_1951 v7_1951 r1955 r1962 r1970 r1977 v12_1985 r2001 v14_2291 v15_2291 v16_2291 v17_2291 v18_2291) E2026 σ_2291 2291 [(1, .ref (A 0)), (3, .ref (zA (Zl V A q) 0)), (4, .ref (A 1)), (6, .int v6_1951), (7, .int v7_1951), (8, .int r1955), (9, .int r1962), (10, .int r1970), (11, .int r1977), (12, .int v12_1985), (13, .int r2001), (14, .int v14_2291), (15, .int v15_2291), (16, .int v16_2291), (17, .int v17_2291), (18, .int v18_2291)] []) (hJ2292 : ∀ (σ_2292 : Wd) (v14_2292 : Int32) (v15_2292 : Int32) (v16_2292 : Int32) (v17_2292 : Int32) (v18_2292 : Int32) (t0_2292 : Int32), Y K (Zl V A q) (M_L_law_J2292 q σ_2292 v6_1951 v7_1951 r1955 r1962 r1970 r1977 v12_1985 r2001 v14_2292 v15_2292 v16_2292 v17_2292 v18_2292 t0_2292) E2026 σ_2292 2292 [(1, .ref (A 0)), (3, .ref (zA (Zl V A q) 0)), (4, .ref (A 1)), (6, .int v6_1951), (7, .int v7_1951), (8, .int r1955), (9, .int r1962), (10, .int r1970), (11, .int r1977), (12, .int v12_1985), (13, .int r2001), (14, .int v14_2292), (15, .int v15_2292), (16, .int v16_2292), (17, .int v17_2292), (18, .int v18_2292)] [.int t0_2292]) : ∀ (σ_2247 : Wd) (v14_2247 : Int32) (v15_2247 : Int32) (v16_2247 : Int32) (v17_2247 : Int32) (v18_2247 : Int32) (v19_2247 : Int32) (v20_2247 : Int32) (v21_2247 : Int32) (t0_2247 : Int32) (t1_2247 : Int32), Y K (Zl V A q) (M_L_law_J2247 q σ_2247 v6_1951 v7_1951 r1955 r1962 r1970 r1977 v12_1985 r2001 v14_2247 v15_2247 v16_2247 v17_2247 v18_2247 v19_2247 v20_2247 v21_2247 t0_2247 t1_2247) E2026 σ_2247 2247 [(1, .ref (A 0)), (3, .ref (zA (Zl V A q) 0)), (4, .ref (A 1)), (6, .int v6_1951), (7, .int v7_1951), (8, .int r1955), (9, .int r1962), (10, .int r1970), (11, .int r1977), (12, .int v12_1985), (13, .int r2001), (14, .int v14_2247), (15, .int v15_2247), (16, .int v16_2247), (17, .int v17_2247), (18, .int v18_2247), (19, .int v19_2247), (20, .int v20_2247), (21, .int v21_2247)] [.int t0_2247, .int t1_2247] := by
  intro σ_2247 v14_2247 v15_2247 v16_2247 v17_2247 v18_2247 v19_2247 v20_2247 v21_2247 t0_2247 t1_2247
  unfold M_L_law_J2247
  refine x_icmp_gt C 2247 2291 dL_law_2247 (by decide) (fun _ => ?_) (fun _ => ?_)
  · refine Y_sub [0, 1, 2, 3, 4, 5, 6, 7, 8, 9, 10, 11, 12, 13, 14, 15] rfl ?_
    exact hJ2291 _ _ _ _ _ _
  · refine x_iload C 2250 17 dL_law_2250 rfl ?_
    refine x_iconst C 2252 dL_law_2252 ki_1 ?_
    have hJ2276 : ∀ (σ_2276 : Wd) (v14_2276 : Int32) (v15_2276 : Int32) (v16_2276 : Int32) (v17_2276 : Int32) (v18_2276 : Int32) (v20_2276 : Int32) (v21_2276 : Int32), Y K (Zl V A q) (M_L_law_J2276 q σ_2276 v6_1951 v7_1951 r1955 r1962 r1970 r1977 v12_1985 r2001 v14_2276 v15_2276 v16_2276 v17_2276 v18_2276 v20_2276 v21_2276) E2026 σ_2276 2276 [(1, .ref (A 0)), (3, .ref (zA (Zl V A q) 0)), (4, .ref (A 1)), (6, .int v6_1951), (7, .int v7_1951), (8, .int r1955), (9, .int r1962), (10, .int r1970), (11, .int r1977), (12, .int v12_1985), (13, .int r2001), (14, .int v14_2276), (15, .int v15_2276), (16, .int v16_2276), (17, .int v17_2276), (18, .int v18_2276), (20, .int v20_2276), (21, .int v21_2276)] [] := c_LJ2276 C hNW hN R hJ2292 hJ2291
    refine x_icmp_ne C 2253 2276 dL_law_2253 (by decide) (fun _ => ?_) (fun _ => ?_)
    · refine Y_sub [0, 1, 2, 3, 4, 5, 6, 7, 8, 9, 10, 11, 12, 13, 14, 15, 17, 18] rfl ?_
      exact hJ2276 _ _ _ _ _ _ _ _
    · refine x_aload C 2256 2 dL_law_2256 rfl ?_
      refine x_net (v := .ref (A 3)) C hNW 2258 9 (Nat.le_of_ble_eq_true rfl) rfl rfl (List.mem_of_getElem? (i := 16) rfl) dL_law_2258 ?_
      refine x_aload_n C 2261 1 dL_law_2261 rfl ?_
      refine x_iload C 2262 16 dL_law_2262 rfl ?_
      refine x_iconst C 2264 dL_law_2264 ki_0 ?_
      refine Y_bnd1 (fun r2265 h2265 => ?_)
      refine x_callLV C 2265 [.int v19_2247, .int (0 : Int32)] [.ref (A 3)] rfl tw_896 mv_X8_write rfl (Nat.le_of_ble_eq_true rfl) (Nat.le_of_ble_eq_true rfl) (Nat.le_of_ble_eq_true rfl) dL_law_2265 (c_X8_write V _ _ _ _ h2265) ?_
      refine Y_chk (fun q2268 => ?_)
      refine x_form C 2268 q2268 dL_law_2268 ?_
      refine x_iconst C 2269 dL_law_2269 ki_0 ?_
      refine Y_chk (fun _ => ?_)
      refine x_formf C 2270 q2268 dL_law_2270 ?_
      refine x_iconst C 2271 dL_law_2271 ki_2 ?_
      refine x_how C 2272 q2268 dL_law_2272 (fun _ => ?_)
      refine x_if_lt C 2273 2291 dL_law_2273 (by decide) (fun _ => ?_) (fun _ => ?_)
      · refine Y_sub [0, 1, 2, 3, 4, 5, 6, 7, 8, 9, 10, 11, 12, 13, 14, 15] rfl ?_
        exact hJ2291 _ _ _ _ _ _
      · refine Y_sub [0, 1, 2, 3, 4, 5, 6, 7, 8, 9, 10, 11, 12, 13, 14, 15, 17, 18] rfl ?_
        exact hJ2276 _ _ _ _ _ _ _ _
set_option maxRecDepth 100000 in
set_option maxHeartbeats 40000000 in
theorem c_LJ2234 {V : Ct_V} {A : Nat → Nat} {q : Lq} {K : Kt} (C : Fx K (Zl V A q) cL_law RL 7 171) (hNW : ∀ w ∈ NWl, va_Nw w K.2.2.2.2.1) (hN : ∀ i, i < 30 → ∀ K2 : Kt, K = K2 → i < K2.2.2.2.2.2.2.2.2.2.2.1) (R : Lr K (Zl V A q)) {E2026 : ((Int32 × Int32 × Int32 × Int32 × Int32 × Int32 × Wd) ⊕ (Int32 × Int32 × Int32 × Int32 × Int32 × Wd)) → Prop} {r1955 : Int32} {r1962 : Int32} {r1970 : Int32} {r1977 : Int32} {r2001 : Int32} {v12_1985 : Int32} {v6_1951 : Int32} {v7_1951 : Int32} (hJ2291 : ∀ (σ_2291 : Wd) (v14_2291 : Int32) (v15_2291 : Int32) (v16_2291 : Int32) (v17_2291 : Int32) (v18_2291 : Int32), Y K (Zl V A q) (M_L_law_J2291 q σ_2291 v6_1951 v7_1951 r1955 r1962 r1970 r1977 v12_1985 r2001 v14_2291 v15_2291 v16_2291 v17_2291 v18_2291) E2026 σ_2291 2291 [(1, .ref (A 0)), (3, .ref (zA (Zl V A q) 0)), (4, .ref (A 1)), (6, .int v6_1951), (7, .int v7_1951), (8, .int r1955), (9, .int r1962), (10, .int r1970), (11, .int r1977), (12, .int v12_1985), (13, .int r2001), (14, .int v14_2291), (15, .int v15_2291), (16, .int v16_2291), (17, .int v17_2291), (18, .int v18_2291)] []) (hJ2292 : ∀ (σ_2292 : Wd) (v14_2292 : Int32) (v15_2292 : Int32) (v16_2292 : Int32) (v17_2292 : Int32) (v18_2292 : Int32) (t0_2292 : Int32), Y K (Zl V A q) (M_L_law_J2292 q σ_2292 v6_1951 v7_1951 r1955 r1962 r1970 r1977 v12_1985 r2001 v14_2292 v15_2292 v16_2292 v17_2292 v18_2292 t0_2292) E2026 σ_2292 2292 [(1, .ref (A 0)), (3, .ref (zA (Zl V A q) 0)), (4, .ref (A 1)), (6, .int v6_1951), (7, .int v7_1951), (8, .int r1955), (9, .int r1962), (10, .int r1970), (11, .int r1977), (12, .int v12_1985), (13, .int r2001), (14, .int v14_2292), (15, .int v15_2292), (16, .int v16_2292), (17, .int v17_2292), (18, .int v18_2292)] [.int t0_2292]) : ∀ (σ_2234 : Wd) (v14_2234 : Int32) (v15_2234 : Int32) (v16_2234 : Int32) (v17_2234 : Int32) (v18_2234 : Int32) (v19_2234 : Int32) (v20_2234 : Int32) (v21_2234 : Int32) (v23_2234 : Int32), Y K (Zl V A q) (M_L_law_J2234 q σ_2234 v6_1951 v7_1951 r1955 r1962 r1970 r1977 v12_1985 r2001 v14_2234 v15_2234 v16_2234 v17_2234 v18_2234 v19_2234 v20_2234 v21_2234 v23_2234) E2026 σ_2234 2234 [(1, .ref (A 0)), (3, .ref (zA (Zl V A q) 0)), (4, .ref (A 1)), (6, .int v6_1951), (7, .int v7_1951), (8, .int r1955), (9, .int r1962), (10, .int r1970), (11, .int r1977), (12, .int v12_1985), (13, .int r2001), (14, .int v14_2234), (15, .int v15_2234), (16, .int v16_2234), (17, .int v17_2234), (18, .int v18_2234), (19, .int v19_2234), (20, .int v20_2234), (21, .int v21_2234), (23, .int v23_2234)] [] := by
  intro σ_2234 v14_2234 v15_2234 v16_2234 v17_2234 v18_2234 v19_2234 v20_2234 v21_2234 v23_2234
  unfold M_L_law_J2234
  refine x_iload C 2234 19 dL_law_2234 rfl ?_
  refine x_iload C 2236 17 dL_law_2236 rfl ?_
  refine x_iconst C 2238 dL_law_2238 ki_2 ?_
  have hJ2247 : ∀ (σ_2247 : Wd) (v14_2247 : Int32) (v15_2247 : Int32) (v16_2247 : Int32) (v17_2247 : Int32) (v18_2247 : Int32) (v19_2247 : Int32) (v20_2247 : Int32) (v21_2247 : Int32) (t0_2247 : Int32) (t1_2247 : Int32), Y K (Zl V A q) (M_L_law_J2247 q σ_2247 v6_1951 v7_1951 r1955 r1962 r1970 r1977 v12_1985 r2001 v14_2247 v15_2247 v16_2247 v17_2247 v18_2247 v19_2247 v20_2247 v21_2247 t0_2247 t1_2247) E2026 σ_2247 2247 [(1, .ref (A 0)), (3, .ref (zA (Zl V A q) 0)), (4, .ref (A 1)), (6, .int v6_1951), (7, .int v7_1951), (8, .int r1955), (9, .int r1962), (10, .int r1970), (11, .int r1977), (12, .int v12_1985), (13, .int r2001), (14, .int v14_2247), (15, .int v15_2247), (16, .int v16_2247), (17, .int v17_2247), (18, .int v18_2247), (19, .int v19_2247), (20, .int v20_2247), (21, .int v21_2247)] [.int t0_2247, .int t1_2247] := c_LJ2247 C hNW hN R hJ2291 hJ2292
  refine x_icmp_ge C 2239 2246 dL_law_2239 (by decide) (fun _ => ?_) (fun _ => ?_)
  · refine x_iconst C 2246 dL_law_2246 ki_0 ?_
    refine Y_sub [0, 1, 2, 3, 4, 5, 6, 7, 8, 9, 10, 11, 12, 13, 14, 15, 16, 17, 18] rfl ?_
    exact hJ2247 _ _ _ _ _ _ _ _ _ _ _
  · refine x_iconst C 2242 dL_law_2242 ki_1 ?_
    refine x_goto C 2243 2247 dL_law_2243 (by decide) ?_
    refine Y_sub [0, 1, 2, 3, 4, 5, 6, 7, 8, 9, 10, 11, 12, 13, 14, 15, 16, 17, 18] rfl ?_
    exact hJ2247 _ _ _ _ _ _ _ _ _ _ _
set_option maxRecDepth 100000 in
set_option maxHeartbeats 40000000 in
theorem c_LJ2212 {V : Ct_V} {A : Nat → Nat} {q : Lq} {K : Kt} (C : Fx K (Zl V A q) cL_law RL 7 171) (hNW : ∀ w ∈ NWl, va_Nw w K.2.2.2.2.1) (hN : ∀ i, i < 30 → ∀ K2 : Kt, K = K2 → i < K2.2.2.2.2.2.2.2.2.2.2.1) (R : Lr K (Zl V A q)) {E2026 : ((Int32 × Int32 × Int32 × Int32 × Int32 × Int32 × Wd) ⊕ (Int32 × Int32 × Int32 × Int32 × Int32 × Wd)) → Prop} {r1955 : Int32} {r1962 : Int32} {r1970 : Int32} {r1977 : Int32} {r2001 : Int32} {v12_1985 : Int32} {v6_1951 : Int32} {v7_1951 : Int32} (hJ2291 : ∀ (σ_2291 : Wd) (v14_2291 : Int32) (v15_2291 : Int32) (v16_2291 : Int32) (v17_2291 : Int32) (v18_2291 : Int32), Y K (Zl V A q) (M_L_law_J2291 q σ_2291 v6_1951 v7_1951 r1955 r1962 r1970 r1977 v12_1985 r2001 v14_2291 v15_2291 v16_2291 v17_2291 v18_2291) E2026 σ_2291 2291 [(1, .ref (A 0)), (3, .ref (zA (Zl V A q) 0)), (4, .ref (A 1)), (6, .int v6_1951), (7, .int v7_1951), (8, .int r1955), (9, .int r1962), (10, .int r1970), (11, .int r1977), (12, .int v12_1985), (13, .int r2001), (14, .int v14_2291), (15, .int v15_2291), (16, .int v16_2291), (17, .int v17_2291), (18, .int v18_2291)] []) (hJ2292 : ∀ (σ_2292 : Wd) (v14_2292 : Int32) (v15_2292 : Int32) (v16_2292 : Int32) (v17_2292 : Int32) (v18_2292 : Int32) (t0_2292 : Int32), Y K (Zl V A q) (M_L_law_J2292 q σ_2292 v6_1951 v7_1951 r1955 r1962 r1970 r1977 v12_1985 r2001 v14_2292 v15_2292 v16_2292 v17_2292 v18_2292 t0_2292) E2026 σ_2292 2292 [(1, .ref (A 0)), (3, .ref (zA (Zl V A q) 0)), (4, .ref (A 1)), (6, .int v6_1951), (7, .int v7_1951), (8, .int r1955), (9, .int r1962), (10, .int r1970), (11, .int r1977), (12, .int v12_1985), (13, .int r2001), (14, .int v14_2292), (15, .int v15_2292), (16, .int v16_2292), (17, .int v17_2292), (18, .int v18_2292)] [.int t0_2292]) : ∀ (σ_2212 : Wd) (v14_2212 : Int32) (v15_2212 : Int32) (v16_2212 : Int32) (v17_2212 : Int32) (v18_2212 : Int32) (v19_2212 : Int32) (v20_2212 : Int32) (v21_2212 : Int32) (v22_2212 : Int32) (v23_2212 : Int32) (t0_2212 : Int32) (t1_2212 : Int32), Y K (Zl V A q) (M_L_law_J2212 q σ_2212 v6_1951 v7_1951 r1955 r1962 r1970 r1977 v12_1985 r2001 v14_2212 v15_2212 v16_2212 v17_2212 v18_2212 v19_2212 v20_2212 v21_2212 v22_2212 v23_2212 t0_2212 t1_2212) E2026 σ_2212 2212 [(1, .ref (A 0)), (3, .ref (zA (Zl V A q) 0)), (4, .ref (A 1)), (6, .int v6_1951), (7, .int v7_1951), (8, .int r1955), (9, .int r1962), (10, .int r1970), (11, .int r1977), (12, .int v12_1985), (13, .int r2001), (14, .int v14_2212), (15, .int v15_2212), (16, .int v16_2212), (17, .int v17_2212), (18, .int v18_2212), (19, .int v19_2212), (20, .int v20_2212), (21, .int v21_2212), (22, .int v22_2212), (23, .int v23_2212)] [.int t0_2212, .int t1_2212] := by
  intro σ_2212 v14_2212 v15_2212 v16_2212 v17_2212 v18_2212 v19_2212 v20_2212 v21_2212 v22_2212 v23_2212 t0_2212 t1_2212
  unfold M_L_law_J2212
  refine x_icmp_ne C 2212 2291 dL_law_2212 (by decide) (fun _ => ?_) (fun _ => ?_)
  · refine Y_sub [0, 1, 2, 3, 4, 5, 6, 7, 8, 9, 10, 11, 12, 13, 14, 15] rfl ?_
    exact hJ2291 _ _ _ _ _ _
  · refine x_iload C 2215 19 dL_law_2215 rfl ?_
    have hJ2234 : ∀ (σ_2234 : Wd) (v14_2234 : Int32) (v15_2234 : Int32) (v16_2234 : Int32) (v17_2234 : Int32) (v18_2234 : Int32) (v19_2234 : Int32) (v20_2234 : Int32) (v21_2234 : Int32) (v23_2234 : Int32), Y K (Zl V A q) (M_L_law_J2234 q σ_2234 v6_1951 v7_1951 r1955 r1962 r1970 r1977 v12_1985 r2001 v14_2234 v15_2234 v16_2234 v17_2234 v18_2234 v19_2234 v20_2234 v21_2234 v23_2234) E2026 σ_2234 2234 [(1, .ref (A 0)), (3, .ref (zA (Zl V A q) 0)), (4, .ref (A 1)), (6, .int v6_1951), (7, .int v7_1951), (8, .int r1955), (9, .int r1962), (10, .int r1970), (11, .int r1977), (12, .int v12_1985), (13, .int r2001), (14, .int v14_2234), (15, .int v15_2234), (16, .int v16_2234), (17, .int v17_2234), (18, .int v18_2234), (19, .int v19_2234), (20, .int v20_2234), (21, .int v21_2234), (23, .int v23_2234)] [] := c_LJ2234 C hNW hN R hJ2291 hJ2292
    refine x_if_lt C 2217 2234 dL_law_2217 (by decide) (fun _ => ?_) (fun _ => ?_)
    · refine Y_sub [0, 1, 2, 3, 4, 5, 6, 7, 8, 9, 10, 11, 12, 13, 14, 15, 16, 17, 18, 20] rfl ?_
      exact hJ2234 _ _ _ _ _ _ _ _ _ _
    · refine x_aload_n C 2220 1 dL_law_2220 rfl ?_
      refine x_iload C 2221 9 dL_law_2221 rfl ?_
      refine x_iload C 2223 16 dL_law_2223 rfl ?_
      refine x_iload C 2225 19 dL_law_2225 rfl ?_
      refine Y_bnd2 (fun r2227 s_2227 h2227 => ?_)
      refine x_callLV C 2227 [.int v12_1985, .int v19_2212, .int v22_2212] [] rfl tw_1030 mv_X8_ahead rfl (Nat.le_of_ble_eq_true rfl) (Nat.le_of_ble_eq_true rfl) (Nat.le_of_ble_eq_true rfl) dL_law_2227 (c_X8_ahead V _ _ _ _ _ h2227) ?_
      refine x_iconst C 2230 dL_law_2230 ki_1 ?_
      refine x_icmp_ne C 2231 2291 dL_law_2231 (by decide) (fun _ => ?_) (fun _ => ?_)
      · refine Y_sub [0, 1, 2, 3, 4, 5, 6, 7, 8, 9, 10, 11, 12, 13, 14, 15] rfl ?_
        exact hJ2291 _ _ _ _ _ _
      · refine Y_sub [0, 1, 2, 3, 4, 5, 6, 7, 8, 9, 10, 11, 12, 13, 14, 15, 16, 17, 18, 20] rfl ?_
        exact hJ2234 _ _ _ _ _ _ _ _ _ _
set_option maxRecDepth 100000 in
set_option maxHeartbeats 40000000 in
theorem c_LJ2202 {V : Ct_V} {A : Nat → Nat} {q : Lq} {K : Kt} (C : Fx K (Zl V A q) cL_law RL 7 171) (hNW : ∀ w ∈ NWl, va_Nw w K.2.2.2.2.1) (hN : ∀ i, i < 30 → ∀ K2 : Kt, K = K2 → i < K2.2.2.2.2.2.2.2.2.2.2.1) (R : Lr K (Zl V A q)) {E2026 : ((Int32 × Int32 × Int32 × Int32 × Int32 × Int32 × Wd) ⊕ (Int32 × Int32 × Int32 × Int32 × Int32 × Wd)) → Prop} {r1955 : Int32} {r1962 : Int32} {r1970 : Int32} {r1977 : Int32} {r2001 : Int32} {v12_1985 : Int32} {v6_1951 : Int32} {v7_1951 : Int32} (hJ2291 : ∀ (σ_2291 : Wd) (v14_2291 : Int32) (v15_2291 : Int32) (v16_2291 : Int32) (v17_2291 : Int32) (v18_2291 : Int32), Y K (Zl V A q) (M_L_law_J2291 q σ_2291 v6_1951 v7_1951 r1955 r1962 r1970 r1977 v12_1985 r2001 v14_2291 v15_2291 v16_2291 v17_2291 v18_2291) E2026 σ_2291 2291 [(1, .ref (A 0)), (3, .ref (zA (Zl V A q) 0)), (4, .ref (A 1)), (6, .int v6_1951), (7, .int v7_1951), (8, .int r1955), (9, .int r1962), (10, .int r1970), (11, .int r1977), (12, .int v12_1985), (13, .int r2001), (14, .int v14_2291), (15, .int v15_2291), (16, .int v16_2291), (17, .int v17_2291), (18, .int v18_2291)] []) (hJ2292 : ∀ (σ_2292 : Wd) (v14_2292 : Int32) (v15_2292 : Int32) (v16_2292 : Int32) (v17_2292 : Int32) (v18_2292 : Int32) (t0_2292 : Int32), Y K (Zl V A q) (M_L_law_J2292 q σ_2292 v6_1951 v7_1951 r1955 r1962 r1970 r1977 v12_1985 r2001 v14_2292 v15_2292 v16_2292 v17_2292 v18_2292 t0_2292) E2026 σ_2292 2292 [(1, .ref (A 0)), (3, .ref (zA (Zl V A q) 0)), (4, .ref (A 1)), (6, .int v6_1951), (7, .int v7_1951), (8, .int r1955), (9, .int r1962), (10, .int r1970), (11, .int r1977), (12, .int v12_1985), (13, .int r2001), (14, .int v14_2292), (15, .int v15_2292), (16, .int v16_2292), (17, .int v17_2292), (18, .int v18_2292)] [.int t0_2292]) : ∀ (σ_2202 : Wd) (v14_2202 : Int32) (v15_2202 : Int32) (v16_2202 : Int32) (v17_2202 : Int32) (v18_2202 : Int32) (v19_2202 : Int32) (v20_2202 : Int32) (v21_2202 : Int32) (v22_2202 : Int32) (v23_2202 : Int32) (t0_2202 : Int32), Y K (Zl V A q) (M_L_law_J2202 q σ_2202 v6_1951 v7_1951 r1955 r1962 r1970 r1977 v12_1985 r2001 v14_2202 v15_2202 v16_2202 v17_2202 v18_2202 v19_2202 v20_2202 v21_2202 v22_2202 v23_2202 t0_2202) E2026 σ_2202 2202 [(1, .ref (A 0)), (3, .ref (zA (Zl V A q) 0)), (4, .ref (A 1)), (6, .int v6_1951), (7, .int v7_1951), (8, .int r1955), (9, .int r1962), (10, .int r1970), (11, .int r1977), (12, .int v12_1985), (13, .int r2001), (14, .int v14_2202), (15, .int v15_2202), (16, .int v16_2202), (17, .int v17_2202), (18, .int v18_2202), (19, .int v19_2202), (20, .int v20_2202), (21, .int v21_2202), (22, .int v22_2202), (23, .int v23_2202)] [.int t0_2202] := by
  intro σ_2202 v14_2202 v15_2202 v16_2202 v17_2202 v18_2202 v19_2202 v20_2202 v21_2202 v22_2202 v23_2202 t0_2202
  unfold M_L_law_J2202
  refine x_iload C 2202 19 dL_law_2202 rfl ?_
  have hJ2212 : ∀ (σ_2212 : Wd) (v14_2212 : Int32) (v15_2212 : Int32) (v16_2212 : Int32) (v17_2212 : Int32) (v18_2212 : Int32) (v19_2212 : Int32) (v20_2212 : Int32) (v21_2212 : Int32) (v22_2212 : Int32) (v23_2212 : Int32) (t0_2212 : Int32) (t1_2212 : Int32), Y K (Zl V A q) (M_L_law_J2212 q σ_2212 v6_1951 v7_1951 r1955 r1962 r1970 r1977 v12_1985 r2001 v14_2212 v15_2212 v16_2212 v17_2212 v18_2212 v19_2212 v20_2212 v21_2212 v22_2212 v23_2212 t0_2212 t1_2212) E2026 σ_2212 2212 [(1, .ref (A 0)), (3, .ref (zA (Zl V A q) 0)), (4, .ref (A 1)), (6, .int v6_1951), (7, .int v7_1951), (8, .int r1955), (9, .int r1962), (10, .int r1970), (11, .int r1977), (12, .int v12_1985), (13, .int r2001), (14, .int v14_2212), (15, .int v15_2212), (16, .int v16_2212), (17, .int v17_2212), (18, .int v18_2212), (19, .int v19_2212), (20, .int v20_2212), (21, .int v21_2212), (22, .int v22_2212), (23, .int v23_2212)] [.int t0_2212, .int t1_2212] := c_LJ2212 C hNW hN R hJ2291 hJ2292
  refine x_if_lt C 2204 2211 dL_law_2204 (by decide) (fun _ => ?_) (fun _ => ?_)
  · refine x_iconst C 2211 dL_law_2211 ki_0 ?_
    exact hJ2212 _ _ _ _ _ _ _ _ _ _ _ _ _
  · refine x_iconst C 2207 dL_law_2207 ki_1 ?_
    refine x_goto C 2208 2212 dL_law_2208 (by decide) ?_
    exact hJ2212 _ _ _ _ _ _ _ _ _ _ _ _ _
set_option maxRecDepth 100000 in
set_option maxHeartbeats 40000000 in
theorem c_LJ2161 {V : Ct_V} {A : Nat → Nat} {q : Lq} {K : Kt} (C : Fx K (Zl V A q) cL_law RL 7 171) (hNW : ∀ w ∈ NWl, va_Nw w K.2.2.2.2.1) (hN : ∀ i, i < 30 → ∀ K2 : Kt, K = K2 → i < K2.2.2.2.2.2.2.2.2.2.2.1) (R : Lr K (Zl V A q)) {E2026 : ((Int32 × Int32 × Int32 × Int32 × Int32 × Int32 × Wd) ⊕ (Int32 × Int32 × Int32 × Int32 × Int32 × Wd)) → Prop} {r1955 : Int32} {r1962 : Int32} {r1970 : Int32} {r1977 : Int32} {r2001 : Int32} {v12_1985 : Int32} {v6_1951 : Int32} {v7_1951 : Int32} (hb2026 : ∀ s' : Int32 × Int32 × Int32 × Int32 × Int32 × Int32 × Wd, E2026 (.inl s') → Go K (Zl V A q) ((fun s : Int32 × Int32 × Int32 × Int32 × Int32 × Int32 × Wd => s.2.2.2.2.2.2) s') 2026 ((fun s : Int32 × Int32 × Int32 × Int32 × Int32 × Int32 × Wd => [(1, .ref (A 0)), (3, .ref (zA (Zl V A q) 0)), (4, .ref (A 1)), (5, .int s.1), (6, .int v6_1951), (7, .int v7_1951), (8, .int r1955), (9, .int r1962), (10, .int r1970), (11, .int r1977), (12, .int v12_1985), (13, .int r2001), (14, .int s.2.1), (15, .int s.2.2.1), (16, .int s.2.2.2.1), (17, .int s.2.2.2.2.1), (18, .int s.2.2.2.2.2.1)]) s') []) : ∀ (σ_2161 : Wd) (v5_2161 : Int32) (v14_2161 : Int32) (v15_2161 : Int32) (v16_2161 : Int32) (v17_2161 : Int32) (v18_2161 : Int32) (v19_2161 : Int32) (v20_2161 : Int32) (v21_2161 : Int32) (v22_2161 : Int32) (v23_2161 : Int32), Y K (Zl V A q) (M_L_law_J2161 q σ_2161 v5_2161 v6_1951 v7_1951 r1955 r1962 r1970 r1977 v12_1985 r2001 v14_2161 v15_2161 v16_2161 v17_2161 v18_2161 v19_2161 v20_2161 v21_2161 v22_2161 v23_2161) E2026 σ_2161 2161 [(1, .ref (A 0)), (3, .ref (zA (Zl V A q) 0)), (4, .ref (A 1)), (5, .int v5_2161), (6, .int v6_1951), (7, .int v7_1951), (8, .int r1955), (9, .int r1962), (10, .int r1970), (11, .int r1977), (12, .int v12_1985), (13, .int r2001), (14, .int v14_2161), (15, .int v15_2161), (16, .int v16_2161), (17, .int v17_2161), (18, .int v18_2161), (19, .int v19_2161), (20, .int v20_2161), (21, .int v21_2161), (22, .int v22_2161), (23, .int v23_2161)] [] := by
  intro σ_2161 v5_2161 v14_2161 v15_2161 v16_2161 v17_2161 v18_2161 v19_2161 v20_2161 v21_2161 v22_2161 v23_2161
  unfold M_L_law_J2161
  refine x_iload C 2161 3 dL_law_2161 rfl ?_
  have hJ2292 : ∀ (σ_2292 : Wd) (v14_2292 : Int32) (v15_2292 : Int32) (v16_2292 : Int32) (v17_2292 : Int32) (v18_2292 : Int32) (t0_2292 : Int32), Y K (Zl V A q) (M_L_law_J2292 q σ_2292 v6_1951 v7_1951 r1955 r1962 r1970 r1977 v12_1985 r2001 v14_2292 v15_2292 v16_2292 v17_2292 v18_2292 t0_2292) E2026 σ_2292 2292 [(1, .ref (A 0)), (3, .ref (zA (Zl V A q) 0)), (4, .ref (A 1)), (6, .int v6_1951), (7, .int v7_1951), (8, .int r1955), (9, .int r1962), (10, .int r1970), (11, .int r1977), (12, .int v12_1985), (13, .int r2001), (14, .int v14_2292), (15, .int v15_2292), (16, .int v16_2292), (17, .int v17_2292), (18, .int v18_2292)] [.int t0_2292] := c_LJ2292 C hNW hN R hb2026
  have hJ2291 : ∀ (σ_2291 : Wd) (v14_2291 : Int32) (v15_2291 : Int32) (v16_2291 : Int32) (v17_2291 : Int32) (v18_2291 : Int32), Y K (Zl V A q) (M_L_law_J2291 q σ_2291 v6_1951 v7_1951 r1955 r1962 r1970 r1977 v12_1985 r2001 v14_2291 v15_2291 v16_2291 v17_2291 v18_2291) E2026 σ_2291 2291 [(1, .ref (A 0)), (3, .ref (zA (Zl V A q) 0)), (4, .ref (A 1)), (6, .int v6_1951), (7, .int v7_1951), (8, .int r1955), (9, .int r1962), (10, .int r1970), (11, .int r1977), (12, .int v12_1985), (13, .int r2001), (14, .int v14_2291), (15, .int v15_2291), (16, .int v16_2291), (17, .int v17_2291), (18, .int v18_2291)] [] := c_LJ2291 C hNW hN R hJ2292
  refine x_if_eq C 2163 2291 dL_law_2163 (by decide) (fun _ => ?_) (fun _ => ?_)
  · refine Y_sub [0, 1, 2, 4, 5, 6, 7, 8, 9, 10, 11, 12, 13, 14, 15, 16] rfl ?_
    exact hJ2291 _ _ _ _ _ _
  · refine x_iload C 2166 18 dL_law_2166 rfl ?_
    refine x_if_lt C 2168 2291 dL_law_2168 (by decide) (fun _ => ?_) (fun _ => ?_)
    · refine Y_sub [0, 1, 2, 4, 5, 6, 7, 8, 9, 10, 11, 12, 13, 14, 15, 16] rfl ?_
      exact hJ2291 _ _ _ _ _ _
    · refine x_iload C 2171 18 dL_law_2171 rfl ?_
      refine x_iconst C 2173 dL_law_2173 ki_4 ?_
      refine x_icmp_ge C 2174 2291 dL_law_2174 (by decide) (fun _ => ?_) (fun _ => ?_)
      · refine Y_sub [0, 1, 2, 4, 5, 6, 7, 8, 9, 10, 11, 12, 13, 14, 15, 16] rfl ?_
        exact hJ2291 _ _ _ _ _ _
      · refine x_iload C 2177 19 dL_law_2177 rfl ?_
        refine x_if_lt C 2179 2291 dL_law_2179 (by decide) (fun _ => ?_) (fun _ => ?_)
        · refine Y_sub [0, 1, 2, 4, 5, 6, 7, 8, 9, 10, 11, 12, 13, 14, 15, 16] rfl ?_
          exact hJ2291 _ _ _ _ _ _
        · refine x_iload C 2182 19 dL_law_2182 rfl ?_
          refine x_iload C 2184 11 dL_law_2184 rfl ?_
          refine x_iload C 2186 16 dL_law_2186 rfl ?_
          refine x_isub C 2188 dL_law_2188 ?_
          refine x_icmp_ge C 2189 2291 dL_law_2189 (by decide) (fun _ => ?_) (fun _ => ?_)
          · refine Y_sub [0, 1, 2, 4, 5, 6, 7, 8, 9, 10, 11, 12, 13, 14, 15, 16] rfl ?_
            exact hJ2291 _ _ _ _ _ _
          · refine x_iload C 2192 19 dL_law_2192 rfl ?_
            have hJ2202 : ∀ (σ_2202 : Wd) (v14_2202 : Int32) (v15_2202 : Int32) (v16_2202 : Int32) (v17_2202 : Int32) (v18_2202 : Int32) (v19_2202 : Int32) (v20_2202 : Int32) (v21_2202 : Int32) (v22_2202 : Int32) (v23_2202 : Int32) (t0_2202 : Int32), Y K (Zl V A q) (M_L_law_J2202 q σ_2202 v6_1951 v7_1951 r1955 r1962 r1970 r1977 v12_1985 r2001 v14_2202 v15_2202 v16_2202 v17_2202 v18_2202 v19_2202 v20_2202 v21_2202 v22_2202 v23_2202 t0_2202) E2026 σ_2202 2202 [(1, .ref (A 0)), (3, .ref (zA (Zl V A q) 0)), (4, .ref (A 1)), (6, .int v6_1951), (7, .int v7_1951), (8, .int r1955), (9, .int r1962), (10, .int r1970), (11, .int r1977), (12, .int v12_1985), (13, .int r2001), (14, .int v14_2202), (15, .int v15_2202), (16, .int v16_2202), (17, .int v17_2202), (18, .int v18_2202), (19, .int v19_2202), (20, .int v20_2202), (21, .int v21_2202), (22, .int v22_2202), (23, .int v23_2202)] [.int t0_2202] := c_LJ2202 C hNW hN R hJ2291 hJ2292
            refine x_if_le C 2194 2201 dL_law_2194 (by decide) (fun _ => ?_) (fun _ => ?_)
            · refine x_iconst C 2201 dL_law_2201 ki_0 ?_
              refine Y_sub [0, 1, 2, 4, 5, 6, 7, 8, 9, 10, 11, 12, 13, 14, 15, 16, 17, 18, 19, 20, 21] rfl ?_
              exact hJ2202 _ _ _ _ _ _ _ _ _ _ _ _
            · refine x_iconst C 2197 dL_law_2197 ki_1 ?_
              refine x_goto C 2198 2202 dL_law_2198 (by decide) ?_
              refine Y_sub [0, 1, 2, 4, 5, 6, 7, 8, 9, 10, 11, 12, 13, 14, 15, 16, 17, 18, 19, 20, 21] rfl ?_
              exact hJ2202 _ _ _ _ _ _ _ _ _ _ _ _
set_option maxRecDepth 100000 in
set_option maxHeartbeats 40000000 in
theorem c_LJ2147 {V : Ct_V} {A : Nat → Nat} {q : Lq} {K : Kt} (C : Fx K (Zl V A q) cL_law RL 7 171) (hNW : ∀ w ∈ NWl, va_Nw w K.2.2.2.2.1) (hN : ∀ i, i < 30 → ∀ K2 : Kt, K = K2 → i < K2.2.2.2.2.2.2.2.2.2.2.1) (R : Lr K (Zl V A q)) {E2026 : ((Int32 × Int32 × Int32 × Int32 × Int32 × Int32 × Wd) ⊕ (Int32 × Int32 × Int32 × Int32 × Int32 × Wd)) → Prop} {r1955 : Int32} {r1962 : Int32} {r1970 : Int32} {r1977 : Int32} {r2001 : Int32} {v12_1985 : Int32} {v6_1951 : Int32} {v7_1951 : Int32} (hb2026 : ∀ s' : Int32 × Int32 × Int32 × Int32 × Int32 × Int32 × Wd, E2026 (.inl s') → Go K (Zl V A q) ((fun s : Int32 × Int32 × Int32 × Int32 × Int32 × Int32 × Wd => s.2.2.2.2.2.2) s') 2026 ((fun s : Int32 × Int32 × Int32 × Int32 × Int32 × Int32 × Wd => [(1, .ref (A 0)), (3, .ref (zA (Zl V A q) 0)), (4, .ref (A 1)), (5, .int s.1), (6, .int v6_1951), (7, .int v7_1951), (8, .int r1955), (9, .int r1962), (10, .int r1970), (11, .int r1977), (12, .int v12_1985), (13, .int r2001), (14, .int s.2.1), (15, .int s.2.2.1), (16, .int s.2.2.2.1), (17, .int s.2.2.2.2.1), (18, .int s.2.2.2.2.2.1)]) s') []) : ∀ (σ_2147 : Wd) (v5_2147 : Int32) (v14_2147 : Int32) (v15_2147 : Int32) (v16_2147 : Int32) (v17_2147 : Int32) (v18_2147 : Int32) (v19_2147 : Int32) (v20_2147 : Int32) (v21_2147 : Int32) (v22_2147 : Int32) (v23_2147 : Int32), Y K (Zl V A q) (M_L_law_J2147 q σ_2147 v5_2147 v6_1951 v7_1951 r1955 r1962 r1970 r1977 v12_1985 r2001 v14_2147 v15_2147 v16_2147 v17_2147 v18_2147 v19_2147 v20_2147 v21_2147 v22_2147 v23_2147) E2026 σ_2147 2147 [(1, .ref (A 0)), (3, .ref (zA (Zl V A q) 0)), (4, .ref (A 1)), (5, .int v5_2147), (6, .int v6_1951), (7, .int v7_1951), (8, .int r1955), (9, .int r1962), (10, .int r1970), (11, .int r1977), (12, .int v12_1985), (13, .int r2001), (14, .int v14_2147), (15, .int v15_2147), (16, .int v16_2147), (17, .int v17_2147), (18, .int v18_2147), (19, .int v19_2147), (20, .int v20_2147), (21, .int v21_2147), (22, .int v22_2147), (23, .int v23_2147)] [] := by
  intro σ_2147 v5_2147 v14_2147 v15_2147 v16_2147 v17_2147 v18_2147 v19_2147 v20_2147 v21_2147 v22_2147 v23_2147
  unfold M_L_law_J2147
  refine x_iload C 2147 19 dL_law_2147 rfl ?_
  have hJ2161 : ∀ (σ_2161 : Wd) (v5_2161 : Int32) (v14_2161 : Int32) (v15_2161 : Int32) (v16_2161 : Int32) (v17_2161 : Int32) (v18_2161 : Int32) (v19_2161 : Int32) (v20_2161 : Int32) (v21_2161 : Int32) (v22_2161 : Int32) (v23_2161 : Int32), Y K (Zl V A q) (M_L_law_J2161 q σ_2161 v5_2161 v6_1951 v7_1951 r1955 r1962 r1970 r1977 v12_1985 r2001 v14_2161 v15_2161 v16_2161 v17_2161 v18_2161 v19_2161 v20_2161 v21_2161 v22_2161 v23_2161) E2026 σ_2161 2161 [(1, .ref (A 0)), (3, .ref (zA (Zl V A q) 0)), (4, .ref (A 1)), (5, .int v5_2161), (6, .int v6_1951), (7, .int v7_1951), (8, .int r1955), (9, .int r1962), (10, .int r1970), (11, .int r1977), (12, .int v12_1985), (13, .int r2001), (14, .int v14_2161), (15, .int v15_2161), (16, .int v16_2161), (17, .int v17_2161), (18, .int v18_2161), (19, .int v19_2161), (20, .int v20_2161), (21, .int v21_2161), (22, .int v22_2161), (23, .int v23_2161)] [] := c_LJ2161 C hNW hN R hb2026
  refine x_if_le C 2149 2161 dL_law_2149 (by decide) (fun _ => ?_) (fun _ => ?_)
  · exact hJ2161 _ _ _ _ _ _ _ _ _ _ _ _
  · refine x_iload C 2152 15 dL_law_2152 rfl ?_
    refine x_iload C 2154 19 dL_law_2154 rfl ?_
    refine x_mmax C 2156 tw_1377 tw_470 tw_49 tw_471 (Nat.le_of_ble_eq_true rfl) (Nat.le_of_ble_eq_true rfl) dL_law_2156 ?_
    refine x_istoret C 2159 (fun v17_2159 => [(17, .int v17_2159), (1, .ref (A 0)), (3, .ref (zA (Zl V A q) 0)), (4, .ref (A 1)), (5, .int v5_2147), (6, .int v6_1951), (7, .int v7_1951), (8, .int r1955), (9, .int r1962), (10, .int r1970), (11, .int r1977), (12, .int v12_1985), (13, .int r2001), (14, .int v14_2147), (15, .int v15_2147), (16, .int v16_2147), (18, .int v18_2147), (19, .int v19_2147), (20, .int v20_2147), (21, .int v21_2147), (22, .int v22_2147), (23, .int v23_2147)]) dL_law_2159 (hN _ (Nat.le_of_ble_eq_true rfl)) (fun _ => rfl) (fun v17_2159 => ?_)
    refine Y_sub [1, 2, 3, 4, 5, 6, 7, 8, 9, 10, 11, 12, 13, 14, 15, 0, 16, 17, 18, 19, 20, 21] rfl ?_
    exact hJ2161 _ _ _ _ _ _ _ _ _ _ _ _
set_option maxRecDepth 100000 in
set_option maxHeartbeats 40000000 in
theorem c_LJ2138 {V : Ct_V} {A : Nat → Nat} {q : Lq} {K : Kt} (C : Fx K (Zl V A q) cL_law RL 7 171) (hNW : ∀ w ∈ NWl, va_Nw w K.2.2.2.2.1) (hN : ∀ i, i < 30 → ∀ K2 : Kt, K = K2 → i < K2.2.2.2.2.2.2.2.2.2.2.1) (R : Lr K (Zl V A q)) {E2026 : ((Int32 × Int32 × Int32 × Int32 × Int32 × Int32 × Wd) ⊕ (Int32 × Int32 × Int32 × Int32 × Int32 × Wd)) → Prop} {r1955 : Int32} {r1962 : Int32} {r1970 : Int32} {r1977 : Int32} {r2001 : Int32} {v12_1985 : Int32} {v6_1951 : Int32} {v7_1951 : Int32} (hb2026 : ∀ s' : Int32 × Int32 × Int32 × Int32 × Int32 × Int32 × Wd, E2026 (.inl s') → Go K (Zl V A q) ((fun s : Int32 × Int32 × Int32 × Int32 × Int32 × Int32 × Wd => s.2.2.2.2.2.2) s') 2026 ((fun s : Int32 × Int32 × Int32 × Int32 × Int32 × Int32 × Wd => [(1, .ref (A 0)), (3, .ref (zA (Zl V A q) 0)), (4, .ref (A 1)), (5, .int s.1), (6, .int v6_1951), (7, .int v7_1951), (8, .int r1955), (9, .int r1962), (10, .int r1970), (11, .int r1977), (12, .int v12_1985), (13, .int r2001), (14, .int s.2.1), (15, .int s.2.2.1), (16, .int s.2.2.2.1), (17, .int s.2.2.2.2.1), (18, .int s.2.2.2.2.2.1)]) s') []) : ∀ (σ_2138 : Wd) (v5_2138 : Int32) (v14_2138 : Int32) (v15_2138 : Int32) (v16_2138 : Int32) (v17_2138 : Int32) (v18_2138 : Int32) (v19_2138 : Int32) (v20_2138 : Int32) (v21_2138 : Int32) (v22_2138 : Int32) (v23_2138 : Int32), Y K (Zl V A q) (M_L_law_J2138 q σ_2138 v5_2138 v6_1951 v7_1951 r1955 r1962 r1970 r1977 v12_1985 r2001 v14_2138 v15_2138 v16_2138 v17_2138 v18_2138 v19_2138 v20_2138 v21_2138 v22_2138 v23_2138) E2026 σ_2138 2138 [(1, .ref (A 0)), (3, .ref (zA (Zl V A q) 0)), (4, .ref (A 1)), (5, .int v5_2138), (6, .int v6_1951), (7, .int v7_1951), (8, .int r1955), (9, .int r1962), (10, .int r1970), (11, .int r1977), (12, .int v12_1985), (13, .int r2001), (14, .int v14_2138), (15, .int v15_2138), (16, .int v16_2138), (17, .int v17_2138), (18, .int v18_2138), (19, .int v19_2138), (20, .int v20_2138), (21, .int v21_2138), (22, .int v22_2138), (23, .int v23_2138)] [] := by
  intro σ_2138 v5_2138 v14_2138 v15_2138 v16_2138 v17_2138 v18_2138 v19_2138 v20_2138 v21_2138 v22_2138 v23_2138
  unfold M_L_law_J2138
  refine x_iload C 2138 18 dL_law_2138 rfl ?_
  have hJ2147 : ∀ (σ_2147 : Wd) (v5_2147 : Int32) (v14_2147 : Int32) (v15_2147 : Int32) (v16_2147 : Int32) (v17_2147 : Int32) (v18_2147 : Int32) (v19_2147 : Int32) (v20_2147 : Int32) (v21_2147 : Int32) (v22_2147 : Int32) (v23_2147 : Int32), Y K (Zl V A q) (M_L_law_J2147 q σ_2147 v5_2147 v6_1951 v7_1951 r1955 r1962 r1970 r1977 v12_1985 r2001 v14_2147 v15_2147 v16_2147 v17_2147 v18_2147 v19_2147 v20_2147 v21_2147 v22_2147 v23_2147) E2026 σ_2147 2147 [(1, .ref (A 0)), (3, .ref (zA (Zl V A q) 0)), (4, .ref (A 1)), (5, .int v5_2147), (6, .int v6_1951), (7, .int v7_1951), (8, .int r1955), (9, .int r1962), (10, .int r1970), (11, .int r1977), (12, .int v12_1985), (13, .int r2001), (14, .int v14_2147), (15, .int v15_2147), (16, .int v16_2147), (17, .int v17_2147), (18, .int v18_2147), (19, .int v19_2147), (20, .int v20_2147), (21, .int v21_2147), (22, .int v22_2147), (23, .int v23_2147)] [] := c_LJ2147 C hNW hN R hb2026
  refine x_if_le C 2140 2147 dL_law_2140 (by decide) (fun _ => ?_) (fun _ => ?_)
  · exact hJ2147 _ _ _ _ _ _ _ _ _ _ _ _
  · refine x_iload C 2143 17 dL_law_2143 rfl ?_
    refine x_istore C 2145 (L' := [(16, .int v19_2138), (1, .ref (A 0)), (3, .ref (zA (Zl V A q) 0)), (4, .ref (A 1)), (5, .int v5_2138), (6, .int v6_1951), (7, .int v7_1951), (8, .int r1955), (9, .int r1962), (10, .int r1970), (11, .int r1977), (12, .int v12_1985), (13, .int r2001), (14, .int v14_2138), (15, .int v15_2138), (17, .int v17_2138), (18, .int v18_2138), (19, .int v19_2138), (20, .int v20_2138), (21, .int v21_2138), (22, .int v22_2138), (23, .int v23_2138)]) dL_law_2145 (hN _ (Nat.le_of_ble_eq_true rfl)) rfl ?_
    refine Y_sub [1, 2, 3, 4, 5, 6, 7, 8, 9, 10, 11, 12, 13, 14, 0, 15, 16, 17, 18, 19, 20, 21] rfl ?_
    exact hJ2147 _ _ _ _ _ _ _ _ _ _ _ _
set_option maxRecDepth 100000 in
set_option maxHeartbeats 40000000 in
theorem c_LJ2129 {V : Ct_V} {A : Nat → Nat} {q : Lq} {K : Kt} (C : Fx K (Zl V A q) cL_law RL 7 171) (hNW : ∀ w ∈ NWl, va_Nw w K.2.2.2.2.1) (hN : ∀ i, i < 30 → ∀ K2 : Kt, K = K2 → i < K2.2.2.2.2.2.2.2.2.2.2.1) (R : Lr K (Zl V A q)) {E2026 : ((Int32 × Int32 × Int32 × Int32 × Int32 × Int32 × Wd) ⊕ (Int32 × Int32 × Int32 × Int32 × Int32 × Wd)) → Prop} {r1955 : Int32} {r1962 : Int32} {r1970 : Int32} {r1977 : Int32} {r2001 : Int32} {v12_1985 : Int32} {v6_1951 : Int32} {v7_1951 : Int32} (hb2026 : ∀ s' : Int32 × Int32 × Int32 × Int32 × Int32 × Int32 × Wd, E2026 (.inl s') → Go K (Zl V A q) ((fun s : Int32 × Int32 × Int32 × Int32 × Int32 × Int32 × Wd => s.2.2.2.2.2.2) s') 2026 ((fun s : Int32 × Int32 × Int32 × Int32 × Int32 × Int32 × Wd => [(1, .ref (A 0)), (3, .ref (zA (Zl V A q) 0)), (4, .ref (A 1)), (5, .int s.1), (6, .int v6_1951), (7, .int v7_1951), (8, .int r1955), (9, .int r1962), (10, .int r1970), (11, .int r1977), (12, .int v12_1985), (13, .int r2001), (14, .int s.2.1), (15, .int s.2.2.1), (16, .int s.2.2.2.1), (17, .int s.2.2.2.2.1), (18, .int s.2.2.2.2.2.1)]) s') []) : ∀ (σ_2129 : Wd) (v5_2129 : Int32) (v14_2129 : Int32) (v15_2129 : Int32) (v16_2129 : Int32) (v17_2129 : Int32) (v18_2129 : Int32) (v19_2129 : Int32) (v20_2129 : Int32) (v21_2129 : Int32) (v22_2129 : Int32) (v23_2129 : Int32), Y K (Zl V A q) (M_L_law_J2129 q σ_2129 v5_2129 v6_1951 v7_1951 r1955 r1962 r1970 r1977 v12_1985 r2001 v14_2129 v15_2129 v16_2129 v17_2129 v18_2129 v19_2129 v20_2129 v21_2129 v22_2129 v23_2129) E2026 σ_2129 2129 [(1, .ref (A 0)), (3, .ref (zA (Zl V A q) 0)), (4, .ref (A 1)), (5, .int v5_2129), (6, .int v6_1951), (7, .int v7_1951), (8, .int r1955), (9, .int r1962), (10, .int r1970), (11, .int r1977), (12, .int v12_1985), (13, .int r2001), (14, .int v14_2129), (15, .int v15_2129), (16, .int v16_2129), (17, .int v17_2129), (18, .int v18_2129), (19, .int v19_2129), (20, .int v20_2129), (21, .int v21_2129), (22, .int v22_2129), (23, .int v23_2129)] [] := by
  intro σ_2129 v5_2129 v14_2129 v15_2129 v16_2129 v17_2129 v18_2129 v19_2129 v20_2129 v21_2129 v22_2129 v23_2129
  unfold M_L_law_J2129
  refine x_iload C 2129 18 dL_law_2129 rfl ?_
  refine x_iconst C 2131 dL_law_2131 ki_1 ?_
  have hJ2138 : ∀ (σ_2138 : Wd) (v5_2138 : Int32) (v14_2138 : Int32) (v15_2138 : Int32) (v16_2138 : Int32) (v17_2138 : Int32) (v18_2138 : Int32) (v19_2138 : Int32) (v20_2138 : Int32) (v21_2138 : Int32) (v22_2138 : Int32) (v23_2138 : Int32), Y K (Zl V A q) (M_L_law_J2138 q σ_2138 v5_2138 v6_1951 v7_1951 r1955 r1962 r1970 r1977 v12_1985 r2001 v14_2138 v15_2138 v16_2138 v17_2138 v18_2138 v19_2138 v20_2138 v21_2138 v22_2138 v23_2138) E2026 σ_2138 2138 [(1, .ref (A 0)), (3, .ref (zA (Zl V A q) 0)), (4, .ref (A 1)), (5, .int v5_2138), (6, .int v6_1951), (7, .int v7_1951), (8, .int r1955), (9, .int r1962), (10, .int r1970), (11, .int r1977), (12, .int v12_1985), (13, .int r2001), (14, .int v14_2138), (15, .int v15_2138), (16, .int v16_2138), (17, .int v17_2138), (18, .int v18_2138), (19, .int v19_2138), (20, .int v20_2138), (21, .int v21_2138), (22, .int v22_2138), (23, .int v23_2138)] [] := c_LJ2138 C hNW hN R hb2026
  refine x_icmp_le C 2132 2138 dL_law_2132 (by decide) (fun _ => ?_) (fun _ => ?_)
  · exact hJ2138 _ _ _ _ _ _ _ _ _ _ _ _
  · refine x_iinct C 2135 13 (1 : Int32) (fun v15_2135 => [(15, .int v15_2135), (1, .ref (A 0)), (3, .ref (zA (Zl V A q) 0)), (4, .ref (A 1)), (5, .int v5_2129), (6, .int v6_1951), (7, .int v7_1951), (8, .int r1955), (9, .int r1962), (10, .int r1970), (11, .int r1977), (12, .int v12_1985), (13, .int r2001), (14, .int v14_2129), (16, .int v16_2129), (17, .int v17_2129), (18, .int v18_2129), (19, .int v19_2129), (20, .int v20_2129), (21, .int v21_2129), (22, .int v22_2129), (23, .int v23_2129)]) dL_law_2135 rfl ki_1 (hN _ (Nat.le_of_ble_eq_true rfl)) (fun _ => rfl) (fun v15_2135 => ?_)
    refine Y_sub [1, 2, 3, 4, 5, 6, 7, 8, 9, 10, 11, 12, 13, 0, 14, 15, 16, 17, 18, 19, 20, 21] rfl ?_
    exact hJ2138 _ _ _ _ _ _ _ _ _ _ _ _
set_option maxRecDepth 100000 in
set_option maxHeartbeats 40000000 in
theorem c_LJ2120 {V : Ct_V} {A : Nat → Nat} {q : Lq} {K : Kt} (C : Fx K (Zl V A q) cL_law RL 7 171) (hNW : ∀ w ∈ NWl, va_Nw w K.2.2.2.2.1) (hN : ∀ i, i < 30 → ∀ K2 : Kt, K = K2 → i < K2.2.2.2.2.2.2.2.2.2.2.1) (R : Lr K (Zl V A q)) {E2026 : ((Int32 × Int32 × Int32 × Int32 × Int32 × Int32 × Wd) ⊕ (Int32 × Int32 × Int32 × Int32 × Int32 × Wd)) → Prop} {r1955 : Int32} {r1962 : Int32} {r1970 : Int32} {r1977 : Int32} {r2001 : Int32} {v12_1985 : Int32} {v6_1951 : Int32} {v7_1951 : Int32} (hb2026 : ∀ s' : Int32 × Int32 × Int32 × Int32 × Int32 × Int32 × Wd, E2026 (.inl s') → Go K (Zl V A q) ((fun s : Int32 × Int32 × Int32 × Int32 × Int32 × Int32 × Wd => s.2.2.2.2.2.2) s') 2026 ((fun s : Int32 × Int32 × Int32 × Int32 × Int32 × Int32 × Wd => [(1, .ref (A 0)), (3, .ref (zA (Zl V A q) 0)), (4, .ref (A 1)), (5, .int s.1), (6, .int v6_1951), (7, .int v7_1951), (8, .int r1955), (9, .int r1962), (10, .int r1970), (11, .int r1977), (12, .int v12_1985), (13, .int r2001), (14, .int s.2.1), (15, .int s.2.2.1), (16, .int s.2.2.2.1), (17, .int s.2.2.2.2.1), (18, .int s.2.2.2.2.2.1)]) s') []) : ∀ (σ_2120 : Wd) (v5_2120 : Int32) (v14_2120 : Int32) (v15_2120 : Int32) (v16_2120 : Int32) (v17_2120 : Int32) (v18_2120 : Int32) (v19_2120 : Int32) (v20_2120 : Int32) (v21_2120 : Int32) (v22_2120 : Int32) (v23_2120 : Int32), Y K (Zl V A q) (M_L_law_J2120 q σ_2120 v5_2120 v6_1951 v7_1951 r1955 r1962 r1970 r1977 v12_1985 r2001 v14_2120 v15_2120 v16_2120 v17_2120 v18_2120 v19_2120 v20_2120 v21_2120 v22_2120 v23_2120) E2026 σ_2120 2120 [(1, .ref (A 0)), (3, .ref (zA (Zl V A q) 0)), (4, .ref (A 1)), (5, .int v5_2120), (6, .int v6_1951), (7, .int v7_1951), (8, .int r1955), (9, .int r1962), (10, .int r1970), (11, .int r1977), (12, .int v12_1985), (13, .int r2001), (14, .int v14_2120), (15, .int v15_2120), (16, .int v16_2120), (17, .int v17_2120), (18, .int v18_2120), (19, .int v19_2120), (20, .int v20_2120), (21, .int v21_2120), (22, .int v22_2120), (23, .int v23_2120)] [] := by
  intro σ_2120 v5_2120 v14_2120 v15_2120 v16_2120 v17_2120 v18_2120 v19_2120 v20_2120 v21_2120 v22_2120 v23_2120
  unfold M_L_law_J2120
  refine x_iload C 2120 18 dL_law_2120 rfl ?_
  refine x_iconst C 2122 dL_law_2122 ki_1 ?_
  have hJ2129 : ∀ (σ_2129 : Wd) (v5_2129 : Int32) (v14_2129 : Int32) (v15_2129 : Int32) (v16_2129 : Int32) (v17_2129 : Int32) (v18_2129 : Int32) (v19_2129 : Int32) (v20_2129 : Int32) (v21_2129 : Int32) (v22_2129 : Int32) (v23_2129 : Int32), Y K (Zl V A q) (M_L_law_J2129 q σ_2129 v5_2129 v6_1951 v7_1951 r1955 r1962 r1970 r1977 v12_1985 r2001 v14_2129 v15_2129 v16_2129 v17_2129 v18_2129 v19_2129 v20_2129 v21_2129 v22_2129 v23_2129) E2026 σ_2129 2129 [(1, .ref (A 0)), (3, .ref (zA (Zl V A q) 0)), (4, .ref (A 1)), (5, .int v5_2129), (6, .int v6_1951), (7, .int v7_1951), (8, .int r1955), (9, .int r1962), (10, .int r1970), (11, .int r1977), (12, .int v12_1985), (13, .int r2001), (14, .int v14_2129), (15, .int v15_2129), (16, .int v16_2129), (17, .int v17_2129), (18, .int v18_2129), (19, .int v19_2129), (20, .int v20_2129), (21, .int v21_2129), (22, .int v22_2129), (23, .int v23_2129)] [] := c_LJ2129 C hNW hN R hb2026
  refine x_icmp_ne C 2123 2129 dL_law_2123 (by decide) (fun _ => ?_) (fun _ => ?_)
  · exact hJ2129 _ _ _ _ _ _ _ _ _ _ _ _
  · refine x_iinct C 2126 12 (1 : Int32) (fun v14_2126 => [(14, .int v14_2126), (1, .ref (A 0)), (3, .ref (zA (Zl V A q) 0)), (4, .ref (A 1)), (5, .int v5_2120), (6, .int v6_1951), (7, .int v7_1951), (8, .int r1955), (9, .int r1962), (10, .int r1970), (11, .int r1977), (12, .int v12_1985), (13, .int r2001), (15, .int v15_2120), (16, .int v16_2120), (17, .int v17_2120), (18, .int v18_2120), (19, .int v19_2120), (20, .int v20_2120), (21, .int v21_2120), (22, .int v22_2120), (23, .int v23_2120)]) dL_law_2126 rfl ki_1 (hN _ (Nat.le_of_ble_eq_true rfl)) (fun _ => rfl) (fun v14_2126 => ?_)
    refine Y_sub [1, 2, 3, 4, 5, 6, 7, 8, 9, 10, 11, 12, 0, 13, 14, 15, 16, 17, 18, 19, 20, 21] rfl ?_
    exact hJ2129 _ _ _ _ _ _ _ _ _ _ _ _
set_option maxRecDepth 100000 in
set_option maxHeartbeats 40000000 in
theorem c_LL2079 {V : Ct_V} {A : Nat → Nat} {q : Lq} {K : Kt} (C : Fx K (Zl V A q) cL_law RL 7 171) (hNW : ∀ w ∈ NWl, va_Nw w K.2.2.2.2.1) (hN : ∀ i, i < 30 → ∀ K2 : Kt, K = K2 → i < K2.2.2.2.2.2.2.2.2.2.2.1) (R : Lr K (Zl V A q)) {E2026 : ((Int32 × Int32 × Int32 × Int32 × Int32 × Int32 × Wd) ⊕ (Int32 × Int32 × Int32 × Int32 × Int32 × Wd)) → Prop} {E2079 : ((Int32 × Int32 × Wd) ⊕ (Int32 × Wd)) → Prop} {r1955 : Int32} {r1962 : Int32} {r1970 : Int32} {r1977 : Int32} {r2001 : Int32} {r2036 : Int32} {r2046 : Int32} {r2057 : Int32} {r2068 : Int32} {v12_1985 : Int32} {v14_2026 : Int32} {v15_2026 : Int32} {v16_2026 : Int32} {v17_2026 : Int32} {v18_2026 : Int32} {v5_2026 : Int32} {v6_1951 : Int32} {v7_1951 : Int32} (hx2079 : ∀ x, E2079 (.inr x) → ∃ q0, (un2 fun x23_2079 sx_2079 => (M_L_law_J2120 q sx_2079 v5_2026 v6_1951 v7_1951 r1955 r1962 r1970 r1977 v12_1985 r2001 v14_2026 v15_2026 v16_2026 v17_2026 v18_2026 r2036 r2046 r2057 r2068 x23_2079)) x = some q0 ∧ E2026 q0) (hJ2120 : ∀ (σ_2120 : Wd) (v5_2120 : Int32) (v14_2120 : Int32) (v15_2120 : Int32) (v16_2120 : Int32) (v17_2120 : Int32) (v18_2120 : Int32) (v19_2120 : Int32) (v20_2120 : Int32) (v21_2120 : Int32) (v22_2120 : Int32) (v23_2120 : Int32), Y K (Zl V A q) (M_L_law_J2120 q σ_2120 v5_2120 v6_1951 v7_1951 r1955 r1962 r1970 r1977 v12_1985 r2001 v14_2120 v15_2120 v16_2120 v17_2120 v18_2120 v19_2120 v20_2120 v21_2120 v22_2120 v23_2120) E2026 σ_2120 2120 [(1, .ref (A 0)), (3, .ref (zA (Zl V A q) 0)), (4, .ref (A 1)), (5, .int v5_2120), (6, .int v6_1951), (7, .int v7_1951), (8, .int r1955), (9, .int r1962), (10, .int r1970), (11, .int r1977), (12, .int v12_1985), (13, .int r2001), (14, .int v14_2120), (15, .int v15_2120), (16, .int v16_2120), (17, .int v17_2120), (18, .int v18_2120), (19, .int v19_2120), (20, .int v20_2120), (21, .int v21_2120), (22, .int v22_2120), (23, .int v23_2120)] []) (hb2079 : ∀ s' : Int32 × Int32 × Wd, E2079 (.inl s') → Go K (Zl V A q) ((fun s : Int32 × Int32 × Wd => s.2.2) s') 2079 ((fun s : Int32 × Int32 × Wd => [(1, .ref (A 0)), (3, .ref (zA (Zl V A q) 0)), (4, .ref (A 1)), (5, .int v5_2026), (6, .int v6_1951), (7, .int v7_1951), (8, .int r1955), (9, .int r1962), (10, .int r1970), (11, .int r1977), (12, .int v12_1985), (13, .int r2001), (14, .int v14_2026), (15, .int v15_2026), (16, .int v16_2026), (17, .int v17_2026), (18, .int v18_2026), (19, .int r2036), (20, .int r2046), (21, .int r2057), (22, .int r2068), (23, .int s.1), (24, .int s.2.1)]) s') []) : ∀ (v23_2079 : Int32) (v24_2079 : Int32) (s_2079 : Wd), Y K (Zl V A q) (M_L_law_L2079 q v5_2026 v6_1951 v7_1951 r1955 r1962 r1970 r1977 v12_1985 r2001 v14_2026 v15_2026 v16_2026 v17_2026 v18_2026 r2036 r2046 r2057 r2068 v23_2079 v24_2079 s_2079) E2079 s_2079 2079 [(1, .ref (A 0)), (3, .ref (zA (Zl V A q) 0)), (4, .ref (A 1)), (5, .int v5_2026), (6, .int v6_1951), (7, .int v7_1951), (8, .int r1955), (9, .int r1962), (10, .int r1970), (11, .int r1977), (12, .int v12_1985), (13, .int r2001), (14, .int v14_2026), (15, .int v15_2026), (16, .int v16_2026), (17, .int v17_2026), (18, .int v18_2026), (19, .int r2036), (20, .int r2046), (21, .int r2057), (22, .int r2068), (23, .int v23_2079), (24, .int v24_2079)] [] := by
  intro v23_2079 v24_2079 s_2079
  unfold M_L_law_L2079
  refine x_iload C 2079 22 dL_law_2079 rfl ?_
  refine x_iload C 2081 5 dL_law_2081 rfl ?_
  refine x_icmp_ge C 2083 2120 dL_law_2083 (by decide) (fun _ => ?_) (fun _ => ?_)
  · refine x_ex2 hx2079 v23_2079 s_2079 ?_
    refine Y_sub [0, 1, 2, 3, 4, 5, 6, 7, 8, 9, 10, 11, 12, 13, 14, 15, 16, 17, 18, 19, 20, 21] rfl ?_
    exact hJ2120 _ _ _ _ _ _ _ _ _ _ _ _
  · refine x_aload_n C 2086 1 dL_law_2086 rfl ?_
    refine x_iload C 2087 10 dL_law_2087 rfl ?_
    refine x_iload C 2089 22 dL_law_2089 rfl ?_
    refine x_iload C 2091 16 dL_law_2091 rfl ?_
    refine Y_bnd2 (fun r2093 s_2093 h2093 => ?_)
    refine x_callLV C 2093 [.int v12_1985, .int v24_2079, .int v18_2026] [] rfl tw_1004 mv_X8_behind rfl (Nat.le_of_ble_eq_true rfl) (Nat.le_of_ble_eq_true rfl) (Nat.le_of_ble_eq_true rfl) dL_law_2093 (c_X8_behind V _ _ _ _ _ h2093) ?_
    refine x_aload_n C 2096 1 dL_law_2096 rfl ?_
    refine x_iload C 2097 10 dL_law_2097 rfl ?_
    refine x_iload C 2099 22 dL_law_2099 rfl ?_
    refine x_iload C 2101 16 dL_law_2101 rfl ?_
    refine x_iconst C 2103 dL_law_2103 ki_1 ?_
    refine x_iadd C 2104 dL_law_2104 ?_
    refine Y_bnd2 (fun r2105 s_2105 h2105 => ?_)
    refine x_callLV C 2105 [.int v12_1985, .int v24_2079, .int (v18_2026 + (1 : Int32))] [.int r2093] rfl tw_1004 mv_X8_behind rfl (Nat.le_of_ble_eq_true rfl) (Nat.le_of_ble_eq_true rfl) (Nat.le_of_ble_eq_true rfl) dL_law_2105 (c_X8_behind V _ _ _ _ _ h2105) ?_
    refine x_icmp_eq C 2108 2114 dL_law_2108 (by decide) (fun _ => ?_) (fun _ => ?_)
    · refine x_iinct C 2114 22 (1 : Int32) (fun v24_2114 => [(24, .int v24_2114), (1, .ref (A 0)), (3, .ref (zA (Zl V A q) 0)), (4, .ref (A 1)), (5, .int v5_2026), (6, .int v6_1951), (7, .int v7_1951), (8, .int r1955), (9, .int r1962), (10, .int r1970), (11, .int r1977), (12, .int v12_1985), (13, .int r2001), (14, .int v14_2026), (15, .int v15_2026), (16, .int v16_2026), (17, .int v17_2026), (18, .int v18_2026), (19, .int r2036), (20, .int r2046), (21, .int r2057), (22, .int r2068), (23, .int v23_2079)]) dL_law_2114 rfl ki_1 (hN _ (Nat.le_of_ble_eq_true rfl)) (fun _ => rfl) (fun v24_2114 => ?_)
      refine x_goto C 2117 2079 dL_law_2117 (by decide) ?_
      refine Y_sub [1, 2, 3, 4, 5, 6, 7, 8, 9, 10, 11, 12, 13, 14, 15, 16, 17, 18, 19, 20, 21, 22, 0] rfl ?_
      exact x_back (v23_2079, v24_2114, s_2105) (hb2079 (v23_2079, v24_2114, s_2105))
    · refine x_iinct C 2111 21 (1 : Int32) (fun v23_2111 => [(23, .int v23_2111), (1, .ref (A 0)), (3, .ref (zA (Zl V A q) 0)), (4, .ref (A 1)), (5, .int v5_2026), (6, .int v6_1951), (7, .int v7_1951), (8, .int r1955), (9, .int r1962), (10, .int r1970), (11, .int r1977), (12, .int v12_1985), (13, .int r2001), (14, .int v14_2026), (15, .int v15_2026), (16, .int v16_2026), (17, .int v17_2026), (18, .int v18_2026), (19, .int r2036), (20, .int r2046), (21, .int r2057), (22, .int r2068), (24, .int v24_2079)]) dL_law_2111 rfl ki_1 (hN _ (Nat.le_of_ble_eq_true rfl)) (fun _ => rfl) (fun v23_2111 => ?_)
      refine x_iinct C 2114 22 (1 : Int32) (fun v24_2114 => [(24, .int v24_2114), (23, .int v23_2111), (1, .ref (A 0)), (3, .ref (zA (Zl V A q) 0)), (4, .ref (A 1)), (5, .int v5_2026), (6, .int v6_1951), (7, .int v7_1951), (8, .int r1955), (9, .int r1962), (10, .int r1970), (11, .int r1977), (12, .int v12_1985), (13, .int r2001), (14, .int v14_2026), (15, .int v15_2026), (16, .int v16_2026), (17, .int v17_2026), (18, .int v18_2026), (19, .int r2036), (20, .int r2046), (21, .int r2057), (22, .int r2068)]) dL_law_2114 rfl ki_1 (hN _ (Nat.le_of_ble_eq_true rfl)) (fun _ => rfl) (fun v24_2114 => ?_)
      refine x_goto C 2117 2079 dL_law_2117 (by decide) ?_
      refine Y_sub [2, 3, 4, 5, 6, 7, 8, 9, 10, 11, 12, 13, 14, 15, 16, 17, 18, 19, 20, 21, 22, 1, 0] rfl ?_
      exact x_back (v23_2111, v24_2114, s_2105) (hb2079 (v23_2111, v24_2114, s_2105))
set_option maxRecDepth 100000 in
set_option maxHeartbeats 40000000 in
theorem c_LL2026 {V : Ct_V} {A : Nat → Nat} {q : Lq} {K : Kt} (C : Fx K (Zl V A q) cL_law RL 7 171) (hNW : ∀ w ∈ NWl, va_Nw w K.2.2.2.2.1) (hN : ∀ i, i < 30 → ∀ K2 : Kt, K = K2 → i < K2.2.2.2.2.2.2.2.2.2.2.1) (R : Lr K (Zl V A q)) {E1985 : ((Int32 × Int32 × Wd) ⊕ (Int32 × Wd)) → Prop} {E2026 : ((Int32 × Int32 × Int32 × Int32 × Int32 × Int32 × Wd) ⊕ (Int32 × Int32 × Int32 × Int32 × Int32 × Wd)) → Prop} {r1955 : Int32} {r1962 : Int32} {r1970 : Int32} {r1977 : Int32} {r2001 : Int32} {v12_1985 : Int32} {v6_1951 : Int32} {v7_1951 : Int32} (hx2026 : ∀ x, E2026 (.inr x) → ∃ q0, (un6 fun x5_2026 x14_2026 x15_2026 x16_2026 x17_2026 sx_2026 => (M_L_law_J2300 q sx_2026 x5_2026 v6_1951 v7_1951 r1955 r1962 r1970 r1977 v12_1985 r2001 x14_2026 x15_2026 x16_2026 x17_2026)) x = some q0 ∧ E1985 q0) (hJ2300 : ∀ (σ_2300 : Wd) (v5_2300 : Int32) (v12_2300 : Int32) (v13_2300 : Int32) (v14_2300 : Int32) (v15_2300 : Int32) (v16_2300 : Int32) (v17_2300 : Int32), Y K (Zl V A q) (M_L_law_J2300 q σ_2300 v5_2300 v6_1951 v7_1951 r1955 r1962 r1970 r1977 v12_2300 v13_2300 v14_2300 v15_2300 v16_2300 v17_2300) E1985 σ_2300 2300 [(1, .ref (A 0)), (3, .ref (zA (Zl V A q) 0)), (4, .ref (A 1)), (5, .int v5_2300), (6, .int v6_1951), (7, .int v7_1951), (8, .int r1955), (9, .int r1962), (10, .int r1970), (11, .int r1977), (12, .int v12_2300), (13, .int v13_2300), (14, .int v14_2300), (15, .int v15_2300), (16, .int v16_2300), (17, .int v17_2300)] []) (hb2026 : ∀ s' : Int32 × Int32 × Int32 × Int32 × Int32 × Int32 × Wd, E2026 (.inl s') → Go K (Zl V A q) ((fun s : Int32 × Int32 × Int32 × Int32 × Int32 × Int32 × Wd => s.2.2.2.2.2.2) s') 2026 ((fun s : Int32 × Int32 × Int32 × Int32 × Int32 × Int32 × Wd => [(1, .ref (A 0)), (3, .ref (zA (Zl V A q) 0)), (4, .ref (A 1)), (5, .int s.1), (6, .int v6_1951), (7, .int v7_1951), (8, .int r1955), (9, .int r1962), (10, .int r1970), (11, .int r1977), (12, .int v12_1985), (13, .int r2001), (14, .int s.2.1), (15, .int s.2.2.1), (16, .int s.2.2.2.1), (17, .int s.2.2.2.2.1), (18, .int s.2.2.2.2.2.1)]) s') []) : ∀ (v5_2026 : Int32) (v14_2026 : Int32) (v15_2026 : Int32) (v16_2026 : Int32) (v17_2026 : Int32) (v18_2026 : Int32) (s_2026 : Wd), Y K (Zl V A q) (M_L_law_L2026 q v6_1951 v7_1951 r1955 r1962 r1970 r1977 v12_1985 r2001 v5_2026 v14_2026 v15_2026 v16_2026 v17_2026 v18_2026 s_2026) E2026 s_2026 2026 [(1, .ref (A 0)), (3, .ref (zA (Zl V A q) 0)), (4, .ref (A 1)), (5, .int v5_2026), (6, .int v6_1951), (7, .int v7_1951), (8, .int r1955), (9, .int r1962), (10, .int r1970), (11, .int r1977), (12, .int v12_1985), (13, .int r2001), (14, .int v14_2026), (15, .int v15_2026), (16, .int v16_2026), (17, .int v17_2026), (18, .int v18_2026)] [] := by
  intro v5_2026 v14_2026 v15_2026 v16_2026 v17_2026 v18_2026 s_2026
  unfold M_L_law_L2026
  refine x_iload C 2026 16 dL_law_2026 rfl ?_
  refine x_if_lt C 2028 2300 dL_law_2028 (by decide) (fun _ => ?_) (fun _ => ?_)
  · refine x_ex6 hx2026 v5_2026 v14_2026 v15_2026 v16_2026 v17_2026 s_2026 ?_
    refine Y_sub [0, 1, 2, 3, 4, 5, 6, 7, 8, 9, 10, 11, 12, 13, 14, 15] rfl ?_
    exact hJ2300 _ _ _ _ _ _ _ _
  · refine x_aload_n C 2031 1 dL_law_2031 rfl ?_
    refine x_iload C 2032 10 dL_law_2032 rfl ?_
    refine x_iload C 2034 16 dL_law_2034 rfl ?_
    refine Y_bnd2 (fun r2036 s_2036 h2036 => ?_)
    refine x_callLV C 2036 [.int v12_1985, .int v18_2026] [] rfl tw_874 mv_X8_log rfl (Nat.le_of_ble_eq_true rfl) (Nat.le_of_ble_eq_true rfl) (Nat.le_of_ble_eq_true rfl) dL_law_2036 (c_X8_log V _ _ _ _ h2036) ?_
    refine x_istore C 2039 (L' := [(19, .int r2036), (1, .ref (A 0)), (3, .ref (zA (Zl V A q) 0)), (4, .ref (A 1)), (5, .int v5_2026), (6, .int v6_1951), (7, .int v7_1951), (8, .int r1955), (9, .int r1962), (10, .int r1970), (11, .int r1977), (12, .int v12_1985), (13, .int r2001), (14, .int v14_2026), (15, .int v15_2026), (16, .int v16_2026), (17, .int v17_2026), (18, .int v18_2026)]) dL_law_2039 (hN _ (Nat.le_of_ble_eq_true rfl)) rfl ?_
    refine x_aload_n C 2041 2 dL_law_2041 rfl ?_
    refine x_iload C 2042 11 dL_law_2042 rfl ?_
    refine x_iload C 2044 0 dL_law_2044 rfl ?_
    refine Y_bnd2 (fun r2046 s_2046 h2046 => ?_)
    refine x_callLV C 2046 [.int v12_1985, .int r2036] [] rfl tw_879 mv_X8_outcome rfl (Nat.le_of_ble_eq_true rfl) (Nat.le_of_ble_eq_true rfl) (Nat.le_of_ble_eq_true rfl) dL_law_2046 (c_X8_outcome V _ _ _ _ h2046) ?_
    refine x_istore C 2049 (L' := [(20, .int r2046), (19, .int r2036), (1, .ref (A 0)), (3, .ref (zA (Zl V A q) 0)), (4, .ref (A 1)), (5, .int v5_2026), (6, .int v6_1951), (7, .int v7_1951), (8, .int r1955), (9, .int r1962), (10, .int r1970), (11, .int r1977), (12, .int v12_1985), (13, .int r2001), (14, .int v14_2026), (15, .int v15_2026), (16, .int v16_2026), (17, .int v17_2026), (18, .int v18_2026)]) dL_law_2049 (hN _ (Nat.le_of_ble_eq_true rfl)) rfl ?_
    refine x_aload_n C 2051 3 dL_law_2051 rfl ?_
    refine x_iload C 2052 12 dL_law_2052 rfl ?_
    refine x_iload C 2054 1 dL_law_2054 rfl ?_
    refine x_iconst C 2056 dL_law_2056 ki_0 ?_
    refine Y_bnd2 (fun r2057 s_2057 h2057 => ?_)
    refine x_callLV C 2057 [.int v12_1985, .int r2036, .int (0 : Int32)] [] rfl tw_992 mv_X8_hangs rfl (Nat.le_of_ble_eq_true rfl) (Nat.le_of_ble_eq_true rfl) (Nat.le_of_ble_eq_true rfl) dL_law_2057 (c_X8_hangs V _ _ _ _ _ h2057) ?_
    refine x_istore C 2060 (L' := [(21, .int r2057), (20, .int r2046), (19, .int r2036), (1, .ref (A 0)), (3, .ref (zA (Zl V A q) 0)), (4, .ref (A 1)), (5, .int v5_2026), (6, .int v6_1951), (7, .int v7_1951), (8, .int r1955), (9, .int r1962), (10, .int r1970), (11, .int r1977), (12, .int v12_1985), (13, .int r2001), (14, .int v14_2026), (15, .int v15_2026), (16, .int v16_2026), (17, .int v17_2026), (18, .int v18_2026)]) dL_law_2060 (hN _ (Nat.le_of_ble_eq_true rfl)) rfl ?_
    refine x_aload_n C 2062 4 dL_law_2062 rfl ?_
    refine x_iload C 2063 13 dL_law_2063 rfl ?_
    refine x_iload C 2065 2 dL_law_2065 rfl ?_
    refine x_iconst C 2067 dL_law_2067 ki_1 ?_
    refine Y_bnd2 (fun r2068 s_2068 h2068 => ?_)
    refine x_callLV C 2068 [.int v12_1985, .int r2036, .int (1 : Int32)] [] rfl tw_992 mv_X8_hangs rfl (Nat.le_of_ble_eq_true rfl) (Nat.le_of_ble_eq_true rfl) (Nat.le_of_ble_eq_true rfl) dL_law_2068 (c_X8_hangs V _ _ _ _ _ h2068) ?_
    refine x_istore C 2071 (L' := [(22, .int r2068), (21, .int r2057), (20, .int r2046), (19, .int r2036), (1, .ref (A 0)), (3, .ref (zA (Zl V A q) 0)), (4, .ref (A 1)), (5, .int v5_2026), (6, .int v6_1951), (7, .int v7_1951), (8, .int r1955), (9, .int r1962), (10, .int r1970), (11, .int r1977), (12, .int v12_1985), (13, .int r2001), (14, .int v14_2026), (15, .int v15_2026), (16, .int v16_2026), (17, .int v17_2026), (18, .int v18_2026)]) dL_law_2071 (hN _ (Nat.le_of_ble_eq_true rfl)) rfl ?_
    refine x_iconst C 2073 dL_law_2073 ki_0 ?_
    refine x_istore C 2074 (L' := [(23, .int (0 : Int32)), (22, .int r2068), (21, .int r2057), (20, .int r2046), (19, .int r2036), (1, .ref (A 0)), (3, .ref (zA (Zl V A q) 0)), (4, .ref (A 1)), (5, .int v5_2026), (6, .int v6_1951), (7, .int v7_1951), (8, .int r1955), (9, .int r1962), (10, .int r1970), (11, .int r1977), (12, .int v12_1985), (13, .int r2001), (14, .int v14_2026), (15, .int v15_2026), (16, .int v16_2026), (17, .int v17_2026), (18, .int v18_2026)]) dL_law_2074 (hN _ (Nat.le_of_ble_eq_true rfl)) rfl ?_
    refine x_iconst C 2076 dL_law_2076 ki_0 ?_
    refine x_istore C 2077 (L' := [(24, .int (0 : Int32)), (23, .int (0 : Int32)), (22, .int r2068), (21, .int r2057), (20, .int r2046), (19, .int r2036), (1, .ref (A 0)), (3, .ref (zA (Zl V A q) 0)), (4, .ref (A 1)), (5, .int v5_2026), (6, .int v6_1951), (7, .int v7_1951), (8, .int r1955), (9, .int r1962), (10, .int r1970), (11, .int r1977), (12, .int v12_1985), (13, .int r2001), (14, .int v14_2026), (15, .int v15_2026), (16, .int v16_2026), (17, .int v17_2026), (18, .int v18_2026)]) dL_law_2077 (hN _ (Nat.le_of_ble_eq_true rfl)) rfl ?_
    have hJ2120 : ∀ (σ_2120 : Wd) (v5_2120 : Int32) (v14_2120 : Int32) (v15_2120 : Int32) (v16_2120 : Int32) (v17_2120 : Int32) (v18_2120 : Int32) (v19_2120 : Int32) (v20_2120 : Int32) (v21_2120 : Int32) (v22_2120 : Int32) (v23_2120 : Int32), Y K (Zl V A q) (M_L_law_J2120 q σ_2120 v5_2120 v6_1951 v7_1951 r1955 r1962 r1970 r1977 v12_1985 r2001 v14_2120 v15_2120 v16_2120 v17_2120 v18_2120 v19_2120 v20_2120 v21_2120 v22_2120 v23_2120) E2026 σ_2120 2120 [(1, .ref (A 0)), (3, .ref (zA (Zl V A q) 0)), (4, .ref (A 1)), (5, .int v5_2120), (6, .int v6_1951), (7, .int v7_1951), (8, .int r1955), (9, .int r1962), (10, .int r1970), (11, .int r1977), (12, .int v12_1985), (13, .int r2001), (14, .int v14_2120), (15, .int v15_2120), (16, .int v16_2120), (17, .int v17_2120), (18, .int v18_2120), (19, .int v19_2120), (20, .int v20_2120), (21, .int v21_2120), (22, .int v22_2120), (23, .int v23_2120)] [] := c_LJ2120 C hNW hN R hb2026
    refine Y_sub [6, 7, 8, 9, 10, 11, 12, 13, 14, 15, 16, 17, 18, 19, 20, 21, 22, 5, 4, 3, 2, 1, 0] rfl ?_
    refine x_loop 2079 (fun s : Int32 × Int32 × Wd => s.2.2) (fun s : Int32 × Int32 × Wd => [(1, .ref (A 0)), (3, .ref (zA (Zl V A q) 0)), (4, .ref (A 1)), (5, .int v5_2026), (6, .int v6_1951), (7, .int v7_1951), (8, .int r1955), (9, .int r1962), (10, .int r1970), (11, .int r1977), (12, .int v12_1985), (13, .int r2001), (14, .int v14_2026), (15, .int v15_2026), (16, .int v16_2026), (17, .int v17_2026), (18, .int v18_2026), (19, .int r2036), (20, .int r2046), (21, .int r2057), (22, .int r2068), (23, .int s.1), (24, .int s.2.1)]) (fun E2079 hb2079 hx2079 s => ?_) FU ((0 : Int32), (0 : Int32), s_2068)
    obtain ⟨v23_2079, v24_2079, s_2079⟩ := s
    exact c_LL2079 C hNW hN R hx2079 hJ2120 hb2079 v23_2079 v24_2079 s_2079
set_option maxRecDepth 100000 in
set_option maxHeartbeats 40000000 in
theorem c_LL1985 {V : Ct_V} {A : Nat → Nat} {q : Lq} {K : Kt} (C : Fx K (Zl V A q) cL_law RL 7 171) (hNW : ∀ w ∈ NWl, va_Nw w K.2.2.2.2.1) (hN : ∀ i, i < 30 → ∀ K2 : Kt, K = K2 → i < K2.2.2.2.2.2.2.2.2.2.2.1) (R : Lr K (Zl V A q)) {E1985 : ((Int32 × Int32 × Wd) ⊕ (Int32 × Wd)) → Prop} {r1955 : Int32} {r1962 : Int32} {r1970 : Int32} {r1977 : Int32} {v6_1951 : Int32} {v7_1951 : Int32} (hx1985 : ∀ x, E1985 (.inr x) → ∃ q0, (un2 fun x5_1985 sx_1985 => (M_L_law_J2765 q sx_1985 x5_1985 v6_1951 r1955 r1962 r1970 r1977)) x = some q0 ∧ (fun q : Int32 × Wd => q.1 = 1) q0) (hJ2765 : ∀ (σ_2765 : Wd) (v5_2765 : Int32) (v6_2765 : Int32) (v8_2765 : Int32) (v9_2765 : Int32) (v10_2765 : Int32) (v11_2765 : Int32), Y K (Zl V A q) (M_L_law_J2765 q σ_2765 v5_2765 v6_2765 v8_2765 v9_2765 v10_2765 v11_2765) (fun q : Int32 × Wd => q.1 = 1) σ_2765 2765 [(1, .ref (A 0)), (3, .ref (zA (Zl V A q) 0)), (4, .ref (A 1)), (5, .int v5_2765), (6, .int v6_2765), (8, .int v8_2765), (9, .int v9_2765), (10, .int v10_2765), (11, .int v11_2765)] []) (hb1985 : ∀ s' : Int32 × Int32 × Wd, E1985 (.inl s') → Go K (Zl V A q) ((fun s : Int32 × Int32 × Wd => s.2.2) s') 1985 ((fun s : Int32 × Int32 × Wd => [(1, .ref (A 0)), (3, .ref (zA (Zl V A q) 0)), (4, .ref (A 1)), (5, .int s.1), (6, .int v6_1951), (7, .int v7_1951), (8, .int r1955), (9, .int r1962), (10, .int r1970), (11, .int r1977), (12, .int s.2.1)]) s') []) : ∀ (v5_1985 : Int32) (v12_1985 : Int32) (s_1985 : Wd), Y K (Zl V A q) (M_L_law_L1985 q v6_1951 v7_1951 r1955 r1962 r1970 r1977 v5_1985 v12_1985 s_1985) E1985 s_1985 1985 [(1, .ref (A 0)), (3, .ref (zA (Zl V A q) 0)), (4, .ref (A 1)), (5, .int v5_1985), (6, .int v6_1951), (7, .int v7_1951), (8, .int r1955), (9, .int r1962), (10, .int r1970), (11, .int r1977), (12, .int v12_1985)] [] := by
  intro v5_1985 v12_1985 s_1985
  unfold M_L_law_L1985
  refine x_iload C 1985 10 dL_law_1985 rfl ?_
  refine x_iload C 1987 4 dL_law_1987 rfl ?_
  refine x_icmp_ge C 1989 2765 dL_law_1989 (by decide) (fun _ => ?_) (fun _ => ?_)
  · refine x_ex2 hx1985 v5_1985 s_1985 ?_
    refine Y_sub [0, 1, 2, 3, 4, 6, 7, 8, 9] rfl ?_
    exact hJ2765 _ _ _ _ _ _ _
  · refine x_iload C 1992 3 dL_law_1992 rfl ?_
    refine x_if_eq C 1994 2765 dL_law_1994 (by decide) (fun _ => ?_) (fun _ => ?_)
    · refine x_ex2 hx1985 v5_1985 s_1985 ?_
      refine Y_sub [0, 1, 2, 3, 4, 6, 7, 8, 9] rfl ?_
      exact hJ2765 _ _ _ _ _ _ _
    · refine x_aload_n C 1997 1 dL_law_1997 rfl ?_
      refine x_iload C 1998 10 dL_law_1998 rfl ?_
      refine x_iconst C 2000 dL_law_2000 ki_1 ?_
      refine Y_bnd2 (fun r2001 s_2001 h2001 => ?_)
      refine x_callLV C 2001 [.int v12_1985, .int (1 : Int32)] [] rfl tw_917 mv_X8_copy rfl (Nat.le_of_ble_eq_true rfl) (Nat.le_of_ble_eq_true rfl) (Nat.le_of_ble_eq_true rfl) dL_law_2001 (c_X8_copy V _ _ _ _ h2001) ?_
      refine x_istore C 2004 (L' := [(13, .int r2001), (1, .ref (A 0)), (3, .ref (zA (Zl V A q) 0)), (4, .ref (A 1)), (5, .int v5_1985), (6, .int v6_1951), (7, .int v7_1951), (8, .int r1955), (9, .int r1962), (10, .int r1970), (11, .int r1977), (12, .int v12_1985)]) dL_law_2004 (hN _ (Nat.le_of_ble_eq_true rfl)) rfl ?_
      refine x_iconst C 2006 dL_law_2006 ki_0 ?_
      refine x_istore C 2007 (L' := [(14, .int (0 : Int32)), (13, .int r2001), (1, .ref (A 0)), (3, .ref (zA (Zl V A q) 0)), (4, .ref (A 1)), (5, .int v5_1985), (6, .int v6_1951), (7, .int v7_1951), (8, .int r1955), (9, .int r1962), (10, .int r1970), (11, .int r1977), (12, .int v12_1985)]) dL_law_2007 (hN _ (Nat.le_of_ble_eq_true rfl)) rfl ?_
      refine x_iconst C 2009 dL_law_2009 ki_0 ?_
      refine x_istore C 2010 (L' := [(15, .int (0 : Int32)), (14, .int (0 : Int32)), (13, .int r2001), (1, .ref (A 0)), (3, .ref (zA (Zl V A q) 0)), (4, .ref (A 1)), (5, .int v5_1985), (6, .int v6_1951), (7, .int v7_1951), (8, .int r1955), (9, .int r1962), (10, .int r1970), (11, .int r1977), (12, .int v12_1985)]) dL_law_2010 (hN _ (Nat.le_of_ble_eq_true rfl)) rfl ?_
      refine x_bipush C 2012 dL_law_2012 kb_m2 ?_
      refine x_istore C 2014 (L' := [(16, .int (-2 : Int32)), (15, .int (0 : Int32)), (14, .int (0 : Int32)), (13, .int r2001), (1, .ref (A 0)), (3, .ref (zA (Zl V A q) 0)), (4, .ref (A 1)), (5, .int v5_1985), (6, .int v6_1951), (7, .int v7_1951), (8, .int r1955), (9, .int r1962), (10, .int r1970), (11, .int r1977), (12, .int v12_1985)]) dL_law_2014 (hN _ (Nat.le_of_ble_eq_true rfl)) rfl ?_
      refine x_bipush C 2016 dL_law_2016 kb_m2 ?_
      refine x_istore C 2018 (L' := [(17, .int (-2 : Int32)), (16, .int (-2 : Int32)), (15, .int (0 : Int32)), (14, .int (0 : Int32)), (13, .int r2001), (1, .ref (A 0)), (3, .ref (zA (Zl V A q) 0)), (4, .ref (A 1)), (5, .int v5_1985), (6, .int v6_1951), (7, .int v7_1951), (8, .int r1955), (9, .int r1962), (10, .int r1970), (11, .int r1977), (12, .int v12_1985)]) dL_law_2018 (hN _ (Nat.le_of_ble_eq_true rfl)) rfl ?_
      refine x_iload C 2020 4 dL_law_2020 rfl ?_
      refine x_iconst C 2022 dL_law_2022 ki_1 ?_
      refine x_isub C 2023 dL_law_2023 ?_
      refine x_istoret C 2024 (fun v18_2024 => [(18, .int v18_2024), (17, .int (-2 : Int32)), (16, .int (-2 : Int32)), (15, .int (0 : Int32)), (14, .int (0 : Int32)), (13, .int r2001), (1, .ref (A 0)), (3, .ref (zA (Zl V A q) 0)), (4, .ref (A 1)), (5, .int v5_1985), (6, .int v6_1951), (7, .int v7_1951), (8, .int r1955), (9, .int r1962), (10, .int r1970), (11, .int r1977), (12, .int v12_1985)]) dL_law_2024 (hN _ (Nat.le_of_ble_eq_true rfl)) (fun _ => rfl) (fun v18_2024 => ?_)
      have hJ2300 : ∀ (σ_2300 : Wd) (v5_2300 : Int32) (v12_2300 : Int32) (v13_2300 : Int32) (v14_2300 : Int32) (v15_2300 : Int32) (v16_2300 : Int32) (v17_2300 : Int32), Y K (Zl V A q) (M_L_law_J2300 q σ_2300 v5_2300 v6_1951 v7_1951 r1955 r1962 r1970 r1977 v12_2300 v13_2300 v14_2300 v15_2300 v16_2300 v17_2300) E1985 σ_2300 2300 [(1, .ref (A 0)), (3, .ref (zA (Zl V A q) 0)), (4, .ref (A 1)), (5, .int v5_2300), (6, .int v6_1951), (7, .int v7_1951), (8, .int r1955), (9, .int r1962), (10, .int r1970), (11, .int r1977), (12, .int v12_2300), (13, .int v13_2300), (14, .int v14_2300), (15, .int v15_2300), (16, .int v16_2300), (17, .int v17_2300)] [] := c_LJ2300 C hNW hN R hb1985
      refine Y_sub [6, 7, 8, 9, 10, 11, 12, 13, 14, 15, 16, 5, 4, 3, 2, 1, 0] rfl ?_
      refine x_loop 2026 (fun s : Int32 × Int32 × Int32 × Int32 × Int32 × Int32 × Wd => s.2.2.2.2.2.2) (fun s : Int32 × Int32 × Int32 × Int32 × Int32 × Int32 × Wd => [(1, .ref (A 0)), (3, .ref (zA (Zl V A q) 0)), (4, .ref (A 1)), (5, .int s.1), (6, .int v6_1951), (7, .int v7_1951), (8, .int r1955), (9, .int r1962), (10, .int r1970), (11, .int r1977), (12, .int v12_1985), (13, .int r2001), (14, .int s.2.1), (15, .int s.2.2.1), (16, .int s.2.2.2.1), (17, .int s.2.2.2.2.1), (18, .int s.2.2.2.2.2.1)]) (fun E2026 hb2026 hx2026 s => ?_) FU (v5_1985, (0 : Int32), (0 : Int32), (-2 : Int32), (-2 : Int32), v18_2024, s_2001)
      obtain ⟨v5_2026, v14_2026, v15_2026, v16_2026, v17_2026, v18_2026, s_2026⟩ := s
      exact c_LL2026 C hNW hN R hx2026 hJ2300 hb2026 v5_2026 v14_2026 v15_2026 v16_2026 v17_2026 v18_2026 s_2026
set_option maxRecDepth 100000 in
set_option maxHeartbeats 40000000 in
theorem c_LJ1951 {V : Ct_V} {A : Nat → Nat} {q : Lq} {K : Kt} (C : Fx K (Zl V A q) cL_law RL 7 171) (hNW : ∀ w ∈ NWl, va_Nw w K.2.2.2.2.1) (hN : ∀ i, i < 30 → ∀ K2 : Kt, K = K2 → i < K2.2.2.2.2.2.2.2.2.2.2.1) (R : Lr K (Zl V A q))   : ∀ (σ_1951 : Wd) (v6_1951 : Int32) (v7_1951 : Int32) (t0_1951 : Int32), Y K (Zl V A q) (M_L_law_J1951 q σ_1951 v6_1951 v7_1951 t0_1951) (fun q : Int32 × Wd => q.1 = 1) σ_1951 1951 [(1, .ref (A 0)), (3, .ref (zA (Zl V A q) 0)), (4, .ref (A 1)), (6, .int v6_1951), (7, .int v7_1951)] [.int t0_1951] := by
  intro σ_1951 v6_1951 v7_1951 t0_1951
  unfold M_L_law_J1951
  refine x_istore C 1951 (L' := [(5, .int t0_1951), (1, .ref (A 0)), (3, .ref (zA (Zl V A q) 0)), (4, .ref (A 1)), (6, .int v6_1951), (7, .int v7_1951)]) dL_law_1951 (hN _ (Nat.le_of_ble_eq_true rfl)) rfl ?_
  refine x_aload_n C 1953 2 dL_law_1953 rfl ?_
  refine x_iconst C 1954 dL_law_1954 ki_3 ?_
  refine Y_bnd2 (fun r1955 s_1955 h1955 => ?_)
  refine x_callLV C 1955 [.int (3 : Int32)] [] rfl tw_1117 mv_X8_count rfl (Nat.le_of_ble_eq_true rfl) (Nat.le_of_ble_eq_true rfl) (Nat.le_of_ble_eq_true rfl) dL_law_1955 (c_X8_count V _ _ _ h1955) ?_
  refine x_istore C 1958 (L' := [(8, .int r1955), (5, .int t0_1951), (1, .ref (A 0)), (3, .ref (zA (Zl V A q) 0)), (4, .ref (A 1)), (6, .int v6_1951), (7, .int v7_1951)]) dL_law_1958 (hN _ (Nat.le_of_ble_eq_true rfl)) rfl ?_
  refine x_aload_n C 1960 3 dL_law_1960 rfl ?_
  refine x_iconst C 1961 dL_law_1961 ki_4 ?_
  refine Y_bnd2 (fun r1962 s_1962 h1962 => ?_)
  refine x_callLV C 1962 [.int (4 : Int32)] [] rfl tw_1117 mv_X8_count rfl (Nat.le_of_ble_eq_true rfl) (Nat.le_of_ble_eq_true rfl) (Nat.le_of_ble_eq_true rfl) dL_law_1962 (c_X8_count V _ _ _ h1962) ?_
  refine x_istore C 1965 (L' := [(9, .int r1962), (8, .int r1955), (5, .int t0_1951), (1, .ref (A 0)), (3, .ref (zA (Zl V A q) 0)), (4, .ref (A 1)), (6, .int v6_1951), (7, .int v7_1951)]) dL_law_1965 (hN _ (Nat.le_of_ble_eq_true rfl)) rfl ?_
  refine x_aload_n C 1967 4 dL_law_1967 rfl ?_
  refine x_bipush C 1968 dL_law_1968 kb_7 ?_
  refine Y_bnd2 (fun r1970 s_1970 h1970 => ?_)
  refine x_callLV C 1970 [.int (7 : Int32)] [] rfl tw_1117 mv_X8_count rfl (Nat.le_of_ble_eq_true rfl) (Nat.le_of_ble_eq_true rfl) (Nat.le_of_ble_eq_true rfl) dL_law_1970 (c_X8_count V _ _ _ h1970) ?_
  refine x_istore C 1973 (L' := [(10, .int r1970), (9, .int r1962), (8, .int r1955), (5, .int t0_1951), (1, .ref (A 0)), (3, .ref (zA (Zl V A q) 0)), (4, .ref (A 1)), (6, .int v6_1951), (7, .int v7_1951)]) dL_law_1973 (hN _ (Nat.le_of_ble_eq_true rfl)) rfl ?_
  refine x_aload_n C 1975 5 dL_law_1975 rfl ?_
  refine x_iconst C 1976 dL_law_1976 ki_5 ?_
  refine Y_bnd2 (fun r1977 s_1977 h1977 => ?_)
  refine x_callLV C 1977 [.int (5 : Int32)] [] rfl tw_1117 mv_X8_count rfl (Nat.le_of_ble_eq_true rfl) (Nat.le_of_ble_eq_true rfl) (Nat.le_of_ble_eq_true rfl) dL_law_1977 (c_X8_count V _ _ _ h1977) ?_
  refine x_istore C 1980 (L' := [(11, .int r1977), (10, .int r1970), (9, .int r1962), (8, .int r1955), (5, .int t0_1951), (1, .ref (A 0)), (3, .ref (zA (Zl V A q) 0)), (4, .ref (A 1)), (6, .int v6_1951), (7, .int v7_1951)]) dL_law_1980 (hN _ (Nat.le_of_ble_eq_true rfl)) rfl ?_
  refine x_iconst C 1982 dL_law_1982 ki_0 ?_
  refine x_istore C 1983 (L' := [(12, .int (0 : Int32)), (11, .int r1977), (10, .int r1970), (9, .int r1962), (8, .int r1955), (5, .int t0_1951), (1, .ref (A 0)), (3, .ref (zA (Zl V A q) 0)), (4, .ref (A 1)), (6, .int v6_1951), (7, .int v7_1951)]) dL_law_1983 (hN _ (Nat.le_of_ble_eq_true rfl)) rfl ?_
  have hJ2765 : ∀ (σ_2765 : Wd) (v5_2765 : Int32) (v6_2765 : Int32) (v8_2765 : Int32) (v9_2765 : Int32) (v10_2765 : Int32) (v11_2765 : Int32), Y K (Zl V A q) (M_L_law_J2765 q σ_2765 v5_2765 v6_2765 v8_2765 v9_2765 v10_2765 v11_2765) (fun q : Int32 × Wd => q.1 = 1) σ_2765 2765 [(1, .ref (A 0)), (3, .ref (zA (Zl V A q) 0)), (4, .ref (A 1)), (5, .int v5_2765), (6, .int v6_2765), (8, .int v8_2765), (9, .int v9_2765), (10, .int v10_2765), (11, .int v11_2765)] [] := c_LJ2765 C hNW hN R 
  refine Y_sub [6, 7, 8, 5, 9, 10, 4, 3, 2, 1, 0] rfl ?_
  refine x_loop 1985 (fun s : Int32 × Int32 × Wd => s.2.2) (fun s : Int32 × Int32 × Wd => [(1, .ref (A 0)), (3, .ref (zA (Zl V A q) 0)), (4, .ref (A 1)), (5, .int s.1), (6, .int v6_1951), (7, .int v7_1951), (8, .int r1955), (9, .int r1962), (10, .int r1970), (11, .int r1977), (12, .int s.2.1)]) (fun E1985 hb1985 hx1985 s => ?_) FU (t0_1951, (0 : Int32), s_1977)
  obtain ⟨v5_1985, v12_1985, s_1985⟩ := s
  exact c_LL1985 C hNW hN R hx1985 hJ2765 hb1985 v5_1985 v12_1985 s_1985
set_option maxRecDepth 100000 in
set_option maxHeartbeats 40000000 in
theorem c_LJ1950 {V : Ct_V} {A : Nat → Nat} {q : Lq} {K : Kt} (C : Fx K (Zl V A q) cL_law RL 7 171) (hNW : ∀ w ∈ NWl, va_Nw w K.2.2.2.2.1) (hN : ∀ i, i < 30 → ∀ K2 : Kt, K = K2 → i < K2.2.2.2.2.2.2.2.2.2.2.1) (R : Lr K (Zl V A q))  (hJ1951 : ∀ (σ_1951 : Wd) (v6_1951 : Int32) (v7_1951 : Int32) (t0_1951 : Int32), Y K (Zl V A q) (M_L_law_J1951 q σ_1951 v6_1951 v7_1951 t0_1951) (fun q : Int32 × Wd => q.1 = 1) σ_1951 1951 [(1, .ref (A 0)), (3, .ref (zA (Zl V A q) 0)), (4, .ref (A 1)), (6, .int v6_1951), (7, .int v7_1951)] [.int t0_1951]) : ∀ (σ_1950 : Wd) (v6_1950 : Int32) (v7_1950 : Int32), Y K (Zl V A q) (M_L_law_J1950 q σ_1950 v6_1950 v7_1950) (fun q : Int32 × Wd => q.1 = 1) σ_1950 1950 [(1, .ref (A 0)), (3, .ref (zA (Zl V A q) 0)), (4, .ref (A 1)), (6, .int v6_1950), (7, .int v7_1950)] [] := by
  intro σ_1950 v6_1950 v7_1950
  unfold M_L_law_J1950
  refine x_iconst C 1950 dL_law_1950 ki_0 ?_
  exact hJ1951 _ _ _ _
set_option maxRecDepth 100000 in
set_option maxHeartbeats 40000000 in
theorem c_LJ1933 {V : Ct_V} {A : Nat → Nat} {q : Lq} {K : Kt} (C : Fx K (Zl V A q) cL_law RL 7 171) (hNW : ∀ w ∈ NWl, va_Nw w K.2.2.2.2.1) (hN : ∀ i, i < 30 → ∀ K2 : Kt, K = K2 → i < K2.2.2.2.2.2.2.2.2.2.2.1) (R : Lr K (Zl V A q))   : ∀ (σ_1933 : Wd) (v5_1933 : Int32) (v6_1933 : Int32) (v7_1933 : Int32), Y K (Zl V A q) (M_L_law_J1933 q σ_1933 v5_1933 v6_1933 v7_1933) (fun q : Int32 × Wd => q.1 = 1) σ_1933 1933 [(1, .ref (A 0)), (3, .ref (zA (Zl V A q) 0)), (4, .ref (A 1)), (5, .int v5_1933), (6, .int v6_1933), (7, .int v7_1933)] [] := by
  intro σ_1933 v5_1933 v6_1933 v7_1933
  unfold M_L_law_J1933
  refine x_iload C 1933 3 dL_law_1933 rfl ?_
  have hJ1951 : ∀ (σ_1951 : Wd) (v6_1951 : Int32) (v7_1951 : Int32) (t0_1951 : Int32), Y K (Zl V A q) (M_L_law_J1951 q σ_1951 v6_1951 v7_1951 t0_1951) (fun q : Int32 × Wd => q.1 = 1) σ_1951 1951 [(1, .ref (A 0)), (3, .ref (zA (Zl V A q) 0)), (4, .ref (A 1)), (6, .int v6_1951), (7, .int v7_1951)] [.int t0_1951] := c_LJ1951 C hNW hN R 
  have hJ1950 : ∀ (σ_1950 : Wd) (v6_1950 : Int32) (v7_1950 : Int32), Y K (Zl V A q) (M_L_law_J1950 q σ_1950 v6_1950 v7_1950) (fun q : Int32 × Wd => q.1 = 1) σ_1950 1950 [(1, .ref (A 0)), (3, .ref (zA (Zl V A q) 0)), (4, .ref (A 1)), (6, .int v6_1950), (7, .int v7_1950)] [] := c_LJ1950 C hNW hN R hJ1951
  refine x_if_eq C 1935 1950 dL_law_1935 (by decide) (fun _ => ?_) (fun _ => ?_)
  · refine Y_sub [0, 1, 2, 4, 5] rfl ?_
    exact hJ1950 _ _ _
  · refine x_aload_n C 1938 1 dL_law_1938 rfl ?_
    refine x_iconst C 1939 dL_law_1939 ki_0 ?_
    refine Y_bnd2 (fun r1940 s_1940 h1940 => ?_)
    refine x_callLV C 1940 [.int (0 : Int32)] [] rfl tw_1100 mv_X8_hold rfl (Nat.le_of_ble_eq_true rfl) (Nat.le_of_ble_eq_true rfl) (Nat.le_of_ble_eq_true rfl) dL_law_1940 (c_X8_hold V _ _ _ h1940) ?_
    refine x_if_eq C 1943 1950 dL_law_1943 (by decide) (fun _ => ?_) (fun _ => ?_)
    · refine Y_sub [0, 1, 2, 4, 5] rfl ?_
      exact hJ1950 _ _ _
    · refine x_iconst C 1946 dL_law_1946 ki_1 ?_
      refine x_goto C 1947 1951 dL_law_1947 (by decide) ?_
      refine Y_sub [0, 1, 2, 4, 5] rfl ?_
      exact hJ1951 _ _ _ _
set_option maxRecDepth 100000 in
set_option maxHeartbeats 40000000 in
theorem c_LJ1927 {V : Ct_V} {A : Nat → Nat} {q : Lq} {K : Kt} (C : Fx K (Zl V A q) cL_law RL 7 171) (hNW : ∀ w ∈ NWl, va_Nw w K.2.2.2.2.1) (hN : ∀ i, i < 30 → ∀ K2 : Kt, K = K2 → i < K2.2.2.2.2.2.2.2.2.2.2.1) (R : Lr K (Zl V A q)) {E120 : ((Int32 × Int32 × Wd) ⊕ (Int32 × Wd)) → Prop} {v6_107 : Int32} {v7_114 : Int32} (hb120 : ∀ s' : Int32 × Int32 × Wd, E120 (.inl s') → Go K (Zl V A q) ((fun s : Int32 × Int32 × Wd => s.2.2) s') 120 ((fun s : Int32 × Int32 × Wd => [(1, .ref (A 0)), (3, .ref (zA (Zl V A q) 0)), (4, .ref (A 1)), (5, .int s.1), (6, .int v6_107), (7, .int v7_114), (8, .int s.2.1)]) s') []) : ∀ (σ_1927 : Wd) (v5_1927 : Int32) (v8_1927 : Int32), Y K (Zl V A q) (M_L_law_J1927 q σ_1927 v5_1927 v6_107 v7_114 v8_1927) E120 σ_1927 1927 [(1, .ref (A 0)), (3, .ref (zA (Zl V A q) 0)), (4, .ref (A 1)), (5, .int v5_1927), (6, .int v6_107), (7, .int v7_114), (8, .int v8_1927)] [] := by
  intro σ_1927 v5_1927 v8_1927
  unfold M_L_law_J1927
  refine x_iinct C 1927 6 (1 : Int32) (fun v8_1927 => [(8, .int v8_1927), (1, .ref (A 0)), (3, .ref (zA (Zl V A q) 0)), (4, .ref (A 1)), (5, .int v5_1927), (6, .int v6_107), (7, .int v7_114)]) dL_law_1927 rfl ki_1 (hN _ (Nat.le_of_ble_eq_true rfl)) (fun _ => rfl) (fun v8_1927 => ?_)
  refine x_goto C 1930 120 dL_law_1930 (by decide) ?_
  refine Y_sub [1, 2, 3, 4, 5, 6, 0] rfl ?_
  exact x_back (v5_1927, v8_1927, σ_1927) (hb120 (v5_1927, v8_1927, σ_1927))
set_option maxRecDepth 100000 in
set_option maxHeartbeats 40000000 in
theorem c_LJ1921 {V : Ct_V} {A : Nat → Nat} {q : Lq} {K : Kt} (C : Fx K (Zl V A q) cL_law RL 7 171) (hNW : ∀ w ∈ NWl, va_Nw w K.2.2.2.2.1) (hN : ∀ i, i < 30 → ∀ K2 : Kt, K = K2 → i < K2.2.2.2.2.2.2.2.2.2.2.1) (R : Lr K (Zl V A q)) {E1626 : ((Int32 × Int32 × Wd) ⊕ (Int32 × Wd)) → Prop} {v6_107 : Int32} {v7_114 : Int32} {v8_1621 : Int32} (hb1626 : ∀ s' : Int32 × Int32 × Wd, E1626 (.inl s') → Go K (Zl V A q) ((fun s : Int32 × Int32 × Wd => s.2.2) s') 1626 ((fun s : Int32 × Int32 × Wd => [(1, .ref (A 0)), (3, .ref (zA (Zl V A q) 0)), (4, .ref (A 1)), (5, .int s.1), (6, .int v6_107), (7, .int v7_114), (8, .int v8_1621), (24, .int s.2.1)]) s') []) : ∀ (σ_1921 : Wd) (v5_1921 : Int32) (v24_1921 : Int32), Y K (Zl V A q) (M_L_law_J1921 q σ_1921 v5_1921 v6_107 v7_114 v8_1621 v24_1921) E1626 σ_1921 1921 [(1, .ref (A 0)), (3, .ref (zA (Zl V A q) 0)), (4, .ref (A 1)), (5, .int v5_1921), (6, .int v6_107), (7, .int v7_114), (8, .int v8_1621), (24, .int v24_1921)] [] := by
  intro σ_1921 v5_1921 v24_1921
  unfold M_L_law_J1921
  refine x_iinct C 1921 7 (1 : Int32) (fun v24_1921 => [(24, .int v24_1921), (1, .ref (A 0)), (3, .ref (zA (Zl V A q) 0)), (4, .ref (A 1)), (5, .int v5_1921), (6, .int v6_107), (7, .int v7_114), (8, .int v8_1621)]) dL_law_1921 rfl ki_1 (hN _ (Nat.le_of_ble_eq_true rfl)) (fun _ => rfl) (fun v24_1921 => ?_)
  refine x_goto C 1924 1626 dL_law_1924 (by decide) ?_
  refine Y_sub [1, 2, 3, 4, 5, 6, 7, 0] rfl ?_
  exact x_back (v5_1921, v24_1921, σ_1921) (hb1626 (v5_1921, v24_1921, σ_1921))
set_option maxRecDepth 100000 in
set_option maxHeartbeats 40000000 in
theorem c_LJ1913 {V : Ct_V} {A : Nat → Nat} {q : Lq} {K : Kt} (C : Fx K (Zl V A q) cL_law RL 7 171) (hNW : ∀ w ∈ NWl, va_Nw w K.2.2.2.2.1) (hN : ∀ i, i < 30 → ∀ K2 : Kt, K = K2 → i < K2.2.2.2.2.2.2.2.2.2.2.1) (R : Lr K (Zl V A q)) {E1705 : ((Int32 × Int32 × Wd) ⊕ (Int32 × Wd)) → Prop} {v24_1700 : Int32} {v25_1700 : Int32} {v26_1700 : Int32} {v6_107 : Int32} {v7_114 : Int32} {v8_1621 : Int32} (hb1705 : ∀ s' : Int32 × Int32 × Wd, E1705 (.inl s') → Go K (Zl V A q) ((fun s : Int32 × Int32 × Wd => s.2.2) s') 1705 ((fun s : Int32 × Int32 × Wd => [(1, .ref (A 0)), (3, .ref (zA (Zl V A q) 0)), (4, .ref (A 1)), (5, .int s.1), (6, .int v6_107), (7, .int v7_114), (8, .int v8_1621), (24, .int v24_1700), (25, .int v25_1700), (26, .int v26_1700), (27, .int s.2.1)]) s') []) : ∀ (σ_1913 : Wd) (v27_1913 : Int32) (t0_1913 : Int32), Y K (Zl V A q) (M_L_law_J1913 q σ_1913 v6_107 v7_114 v8_1621 v24_1700 v25_1700 v26_1700 v27_1913 t0_1913) E1705 σ_1913 1913 [(1, .ref (A 0)), (3, .ref (zA (Zl V A q) 0)), (4, .ref (A 1)), (6, .int v6_107), (7, .int v7_114), (8, .int v8_1621), (24, .int v24_1700), (25, .int v25_1700), (26, .int v26_1700), (27, .int v27_1913)] [.int t0_1913] := by
  intro σ_1913 v27_1913 t0_1913
  unfold M_L_law_J1913
  refine x_istore C 1913 (L' := [(5, .int t0_1913), (1, .ref (A 0)), (3, .ref (zA (Zl V A q) 0)), (4, .ref (A 1)), (6, .int v6_107), (7, .int v7_114), (8, .int v8_1621), (24, .int v24_1700), (25, .int v25_1700), (26, .int v26_1700), (27, .int v27_1913)]) dL_law_1913 (hN _ (Nat.le_of_ble_eq_true rfl)) rfl ?_
  refine x_iinct C 1915 10 (1 : Int32) (fun v27_1915 => [(27, .int v27_1915), (5, .int t0_1913), (1, .ref (A 0)), (3, .ref (zA (Zl V A q) 0)), (4, .ref (A 1)), (6, .int v6_107), (7, .int v7_114), (8, .int v8_1621), (24, .int v24_1700), (25, .int v25_1700), (26, .int v26_1700)]) dL_law_1915 rfl ki_1 (hN _ (Nat.le_of_ble_eq_true rfl)) (fun _ => rfl) (fun v27_1915 => ?_)
  refine x_goto C 1918 1705 dL_law_1918 (by decide) ?_
  refine Y_sub [2, 3, 4, 1, 5, 6, 7, 8, 9, 10, 0] rfl ?_
  exact x_back (t0_1913, v27_1915, σ_1913) (hb1705 (t0_1913, v27_1915, σ_1913))
set_option maxRecDepth 100000 in
set_option maxHeartbeats 40000000 in
theorem c_LJ1912 {V : Ct_V} {A : Nat → Nat} {q : Lq} {K : Kt} (C : Fx K (Zl V A q) cL_law RL 7 171) (hNW : ∀ w ∈ NWl, va_Nw w K.2.2.2.2.1) (hN : ∀ i, i < 30 → ∀ K2 : Kt, K = K2 → i < K2.2.2.2.2.2.2.2.2.2.2.1) (R : Lr K (Zl V A q)) {E1705 : ((Int32 × Int32 × Wd) ⊕ (Int32 × Wd)) → Prop} {v24_1700 : Int32} {v25_1700 : Int32} {v26_1700 : Int32} {v6_107 : Int32} {v7_114 : Int32} {v8_1621 : Int32} (hJ1913 : ∀ (σ_1913 : Wd) (v27_1913 : Int32) (t0_1913 : Int32), Y K (Zl V A q) (M_L_law_J1913 q σ_1913 v6_107 v7_114 v8_1621 v24_1700 v25_1700 v26_1700 v27_1913 t0_1913) E1705 σ_1913 1913 [(1, .ref (A 0)), (3, .ref (zA (Zl V A q) 0)), (4, .ref (A 1)), (6, .int v6_107), (7, .int v7_114), (8, .int v8_1621), (24, .int v24_1700), (25, .int v25_1700), (26, .int v26_1700), (27, .int v27_1913)] [.int t0_1913]) : ∀ (σ_1912 : Wd) (v27_1912 : Int32), Y K (Zl V A q) (M_L_law_J1912 q σ_1912 v6_107 v7_114 v8_1621 v24_1700 v25_1700 v26_1700 v27_1912) E1705 σ_1912 1912 [(1, .ref (A 0)), (3, .ref (zA (Zl V A q) 0)), (4, .ref (A 1)), (6, .int v6_107), (7, .int v7_114), (8, .int v8_1621), (24, .int v24_1700), (25, .int v25_1700), (26, .int v26_1700), (27, .int v27_1912)] [] := by
  intro σ_1912 v27_1912
  unfold M_L_law_J1912
  refine x_iconst C 1912 dL_law_1912 ki_0 ?_
  exact hJ1913 _ _ _
set_option maxRecDepth 100000 in
set_option maxHeartbeats 40000000 in
theorem c_LJ1868 {V : Ct_V} {A : Nat → Nat} {q : Lq} {K : Kt} (C : Fx K (Zl V A q) cL_law RL 7 171) (hNW : ∀ w ∈ NWl, va_Nw w K.2.2.2.2.1) (hN : ∀ i, i < 30 → ∀ K2 : Kt, K = K2 → i < K2.2.2.2.2.2.2.2.2.2.2.1) (R : Lr K (Zl V A q)) {E1705 : ((Int32 × Int32 × Wd) ⊕ (Int32 × Wd)) → Prop} {v24_1700 : Int32} {v25_1700 : Int32} {v26_1700 : Int32} {v6_107 : Int32} {v7_114 : Int32} {v8_1621 : Int32} (hJ1912 : ∀ (σ_1912 : Wd) (v27_1912 : Int32), Y K (Zl V A q) (M_L_law_J1912 q σ_1912 v6_107 v7_114 v8_1621 v24_1700 v25_1700 v26_1700 v27_1912) E1705 σ_1912 1912 [(1, .ref (A 0)), (3, .ref (zA (Zl V A q) 0)), (4, .ref (A 1)), (6, .int v6_107), (7, .int v7_114), (8, .int v8_1621), (24, .int v24_1700), (25, .int v25_1700), (26, .int v26_1700), (27, .int v27_1912)] []) (hJ1913 : ∀ (σ_1913 : Wd) (v27_1913 : Int32) (t0_1913 : Int32), Y K (Zl V A q) (M_L_law_J1913 q σ_1913 v6_107 v7_114 v8_1621 v24_1700 v25_1700 v26_1700 v27_1913 t0_1913) E1705 σ_1913 1913 [(1, .ref (A 0)), (3, .ref (zA (Zl V A q) 0)), (4, .ref (A 1)), (6, .int v6_107), (7, .int v7_114), (8, .int v8_1621), (24, .int v24_1700), (25, .int v25_1700), (26, .int v26_1700), (27, .int v27_1913)] [.int t0_1913]) : ∀ (σ_1868 : Wd) (v27_1868 : Int32) (v28_1868 : Int32), Y K (Zl V A q) (M_L_law_J1868 q σ_1868 v6_107 v7_114 v8_1621 v24_1700 v25_1700 v26_1700 v27_1868 v28_1868) E1705 σ_1868 1868 [(1, .ref (A 0)), (3, .ref (zA (Zl V A q) 0)), (4, .ref (A 1)), (6, .int v6_107), (7, .int v7_114), (8, .int v8_1621), (24, .int v24_1700), (25, .int v25_1700), (26, .int v26_1700), (27, .int v27_1868), (28, .int v28_1868)] [] := by
  intro σ_1868 v27_1868 v28_1868
  unfold M_L_law_J1868
  refine x_aload_n C 1868 1 dL_law_1868 rfl ?_
  refine x_iload C 1869 10 dL_law_1869 rfl ?_
  refine x_iconst C 1871 dL_law_1871 ki_2 ?_
  refine Y_bnd1 (fun r1872 h1872 => ?_)
  refine x_callLV C 1872 [.int v28_1868, .int (2 : Int32)] [] rfl tw_896 mv_X8_write rfl (Nat.le_of_ble_eq_true rfl) (Nat.le_of_ble_eq_true rfl) (Nat.le_of_ble_eq_true rfl) dL_law_1872 (c_X8_write V _ _ _ _ h1872) ?_
  refine x_aload_n C 1875 1 dL_law_1875 rfl ?_
  refine x_iload C 1876 6 dL_law_1876 rfl ?_
  refine x_iconst C 1878 dL_law_1878 ki_0 ?_
  refine Y_bnd2 (fun r1879 s_1879 h1879 => ?_)
  refine x_callLV C 1879 [.int v24_1700, .int (0 : Int32)] [.int r1872] rfl tw_917 mv_X8_copy rfl (Nat.le_of_ble_eq_true rfl) (Nat.le_of_ble_eq_true rfl) (Nat.le_of_ble_eq_true rfl) dL_law_1879 (c_X8_copy V _ _ _ _ h1879) ?_
  refine x_icmp_gt C 1882 1912 dL_law_1882 (by decide) (fun _ => ?_) (fun _ => ?_)
  · refine Y_sub [0, 1, 2, 3, 4, 5, 6, 7, 8, 9] rfl ?_
    exact hJ1912 _ _
  · refine x_aload_n C 1885 1 dL_law_1885 rfl ?_
    refine x_iload C 1886 10 dL_law_1886 rfl ?_
    refine x_iconst C 1888 dL_law_1888 ki_2 ?_
    refine Y_bnd1 (fun r1889 h1889 => ?_)
    refine x_callLV C 1889 [.int v28_1868, .int (2 : Int32)] [] rfl tw_896 mv_X8_write rfl (Nat.le_of_ble_eq_true rfl) (Nat.le_of_ble_eq_true rfl) (Nat.le_of_ble_eq_true rfl) dL_law_1889 (c_X8_write V _ _ _ _ h1889) ?_
    refine x_aload_n C 1892 1 dL_law_1892 rfl ?_
    refine x_iload C 1893 6 dL_law_1893 rfl ?_
    refine x_aload_n C 1895 1 dL_law_1895 rfl ?_
    refine x_iload C 1896 10 dL_law_1896 rfl ?_
    refine x_iconst C 1898 dL_law_1898 ki_1 ?_
    refine Y_bnd1 (fun r1899 h1899 => ?_)
    refine x_callLV C 1899 [.int v28_1868, .int (1 : Int32)] [.int v24_1700, .ref (zA (Zl V A q) 0), .int r1889] rfl tw_896 mv_X8_write rfl (Nat.le_of_ble_eq_true rfl) (Nat.le_of_ble_eq_true rfl) (Nat.le_of_ble_eq_true rfl) dL_law_1899 (c_X8_write V _ _ _ _ h1899) ?_
    refine Y_bnd1 (fun r1902 h1902 => ?_)
    refine x_callLV C 1902 [.int v24_1700, .int r1899] [.int r1889] rfl tw_945 mv_X8_vector rfl (Nat.le_of_ble_eq_true rfl) (Nat.le_of_ble_eq_true rfl) (Nat.le_of_ble_eq_true rfl) dL_law_1902 (c_X8_vector V _ _ _ _ h1902) ?_
    refine x_icmp_gt C 1905 1912 dL_law_1905 (by decide) (fun _ => ?_) (fun _ => ?_)
    · refine Y_sub [0, 1, 2, 3, 4, 5, 6, 7, 8, 9] rfl ?_
      exact hJ1912 _ _
    · refine x_iconst C 1908 dL_law_1908 ki_1 ?_
      refine x_goto C 1909 1913 dL_law_1909 (by decide) ?_
      refine Y_sub [0, 1, 2, 3, 4, 5, 6, 7, 8, 9] rfl ?_
      exact hJ1913 _ _ _
set_option maxRecDepth 100000 in
set_option maxHeartbeats 40000000 in
theorem c_LJ1810 {V : Ct_V} {A : Nat → Nat} {q : Lq} {K : Kt} (C : Fx K (Zl V A q) cL_law RL 7 171) (hNW : ∀ w ∈ NWl, va_Nw w K.2.2.2.2.1) (hN : ∀ i, i < 30 → ∀ K2 : Kt, K = K2 → i < K2.2.2.2.2.2.2.2.2.2.2.1) (R : Lr K (Zl V A q)) {E1705 : ((Int32 × Int32 × Wd) ⊕ (Int32 × Wd)) → Prop} {v24_1700 : Int32} {v25_1700 : Int32} {v26_1700 : Int32} {v6_107 : Int32} {v7_114 : Int32} {v8_1621 : Int32} (hJ1912 : ∀ (σ_1912 : Wd) (v27_1912 : Int32), Y K (Zl V A q) (M_L_law_J1912 q σ_1912 v6_107 v7_114 v8_1621 v24_1700 v25_1700 v26_1700 v27_1912) E1705 σ_1912 1912 [(1, .ref (A 0)), (3, .ref (zA (Zl V A q) 0)), (4, .ref (A 1)), (6, .int v6_107), (7, .int v7_114), (8, .int v8_1621), (24, .int v24_1700), (25, .int v25_1700), (26, .int v26_1700), (27, .int v27_1912)] []) (hJ1913 : ∀ (σ_1913 : Wd) (v27_1913 : Int32) (t0_1913 : Int32), Y K (Zl V A q) (M_L_law_J1913 q σ_1913 v6_107 v7_114 v8_1621 v24_1700 v25_1700 v26_1700 v27_1913 t0_1913) E1705 σ_1913 1913 [(1, .ref (A 0)), (3, .ref (zA (Zl V A q) 0)), (4, .ref (A 1)), (6, .int v6_107), (7, .int v7_114), (8, .int v8_1621), (24, .int v24_1700), (25, .int v25_1700), (26, .int v26_1700), (27, .int v27_1913)] [.int t0_1913]) : ∀ (σ_1810 : Wd) (v27_1810 : Int32) (v28_1810 : Int32) (v29_1810 : Int32), Y K (Zl V A q) (M_L_law_J1810 q σ_1810 v6_107 v7_114 v8_1621 v24_1700 v25_1700 v26_1700 v27_1810 v28_1810 v29_1810) E1705 σ_1810 1810 [(1, .ref (A 0)), (3, .ref (zA (Zl V A q) 0)), (4, .ref (A 1)), (6, .int v6_107), (7, .int v7_114), (8, .int v8_1621), (24, .int v24_1700), (25, .int v25_1700), (26, .int v26_1700), (27, .int v27_1810), (28, .int v28_1810), (29, .int v29_1810)] [] := by
  intro σ_1810 v27_1810 v28_1810 v29_1810
  unfold M_L_law_J1810
  refine x_iload C 1810 9 dL_law_1810 rfl ?_
  refine x_iload C 1812 8 dL_law_1812 rfl ?_
  have hJ1868 : ∀ (σ_1868 : Wd) (v27_1868 : Int32) (v28_1868 : Int32), Y K (Zl V A q) (M_L_law_J1868 q σ_1868 v6_107 v7_114 v8_1621 v24_1700 v25_1700 v26_1700 v27_1868 v28_1868) E1705 σ_1868 1868 [(1, .ref (A 0)), (3, .ref (zA (Zl V A q) 0)), (4, .ref (A 1)), (6, .int v6_107), (7, .int v7_114), (8, .int v8_1621), (24, .int v24_1700), (25, .int v25_1700), (26, .int v26_1700), (27, .int v27_1868), (28, .int v28_1868)] [] := c_LJ1868 C hNW hN R hJ1912 hJ1913
  refine x_icmp_le C 1814 1868 dL_law_1814 (by decide) (fun _ => ?_) (fun _ => ?_)
  · refine Y_sub [0, 1, 2, 3, 4, 5, 6, 7, 8, 9, 10] rfl ?_
    exact hJ1868 _ _ _
  · refine x_aload_n C 1817 1 dL_law_1817 rfl ?_
    refine x_iload C 1818 11 dL_law_1818 rfl ?_
    refine x_iconst C 1820 dL_law_1820 ki_2 ?_
    refine Y_bnd1 (fun r1821 h1821 => ?_)
    refine x_callLV C 1821 [.int v29_1810, .int (2 : Int32)] [] rfl tw_896 mv_X8_write rfl (Nat.le_of_ble_eq_true rfl) (Nat.le_of_ble_eq_true rfl) (Nat.le_of_ble_eq_true rfl) dL_law_1821 (c_X8_write V _ _ _ _ h1821) ?_
    refine x_aload_n C 1824 1 dL_law_1824 rfl ?_
    refine x_iload C 1825 10 dL_law_1825 rfl ?_
    refine x_iconst C 1827 dL_law_1827 ki_2 ?_
    refine Y_bnd1 (fun r1828 h1828 => ?_)
    refine x_callLV C 1828 [.int v28_1810, .int (2 : Int32)] [.int r1821] rfl tw_896 mv_X8_write rfl (Nat.le_of_ble_eq_true rfl) (Nat.le_of_ble_eq_true rfl) (Nat.le_of_ble_eq_true rfl) dL_law_1828 (c_X8_write V _ _ _ _ h1828) ?_
    refine x_icmp_lt C 1831 1868 dL_law_1831 (by decide) (fun _ => ?_) (fun _ => ?_)
    · refine Y_sub [0, 1, 2, 3, 4, 5, 6, 7, 8, 9, 10] rfl ?_
      exact hJ1868 _ _ _
    · refine x_aload_n C 1834 1 dL_law_1834 rfl ?_
      refine x_iload C 1835 11 dL_law_1835 rfl ?_
      refine x_iconst C 1837 dL_law_1837 ki_2 ?_
      refine Y_bnd1 (fun r1838 h1838 => ?_)
      refine x_callLV C 1838 [.int v29_1810, .int (2 : Int32)] [] rfl tw_896 mv_X8_write rfl (Nat.le_of_ble_eq_true rfl) (Nat.le_of_ble_eq_true rfl) (Nat.le_of_ble_eq_true rfl) dL_law_1838 (c_X8_write V _ _ _ _ h1838) ?_
      refine x_aload_n C 1841 1 dL_law_1841 rfl ?_
      refine x_iload C 1842 10 dL_law_1842 rfl ?_
      refine x_iconst C 1844 dL_law_1844 ki_2 ?_
      refine Y_bnd1 (fun r1845 h1845 => ?_)
      refine x_callLV C 1845 [.int v28_1810, .int (2 : Int32)] [.int r1838] rfl tw_896 mv_X8_write rfl (Nat.le_of_ble_eq_true rfl) (Nat.le_of_ble_eq_true rfl) (Nat.le_of_ble_eq_true rfl) dL_law_1845 (c_X8_write V _ _ _ _ h1845) ?_
      refine x_icmp_ne C 1848 1912 dL_law_1848 (by decide) (fun _ => ?_) (fun _ => ?_)
      · refine Y_sub [0, 1, 2, 3, 4, 5, 6, 7, 8, 9] rfl ?_
        exact hJ1912 _ _
      · refine x_aload_n C 1851 1 dL_law_1851 rfl ?_
        refine x_iload C 1852 11 dL_law_1852 rfl ?_
        refine x_iconst C 1854 dL_law_1854 ki_1 ?_
        refine Y_bnd1 (fun r1855 h1855 => ?_)
        refine x_callLV C 1855 [.int v29_1810, .int (1 : Int32)] [] rfl tw_896 mv_X8_write rfl (Nat.le_of_ble_eq_true rfl) (Nat.le_of_ble_eq_true rfl) (Nat.le_of_ble_eq_true rfl) dL_law_1855 (c_X8_write V _ _ _ _ h1855) ?_
        refine x_aload_n C 1858 1 dL_law_1858 rfl ?_
        refine x_iload C 1859 10 dL_law_1859 rfl ?_
        refine x_iconst C 1861 dL_law_1861 ki_1 ?_
        refine Y_bnd1 (fun r1862 h1862 => ?_)
        refine x_callLV C 1862 [.int v28_1810, .int (1 : Int32)] [.int r1855] rfl tw_896 mv_X8_write rfl (Nat.le_of_ble_eq_true rfl) (Nat.le_of_ble_eq_true rfl) (Nat.le_of_ble_eq_true rfl) dL_law_1862 (c_X8_write V _ _ _ _ h1862) ?_
        refine x_icmp_ge C 1865 1912 dL_law_1865 (by decide) (fun _ => ?_) (fun _ => ?_)
        · refine Y_sub [0, 1, 2, 3, 4, 5, 6, 7, 8, 9] rfl ?_
          exact hJ1912 _ _
        · refine Y_sub [0, 1, 2, 3, 4, 5, 6, 7, 8, 9, 10] rfl ?_
          exact hJ1868 _ _ _
set_option maxRecDepth 100000 in
set_option maxHeartbeats 40000000 in
theorem c_LJ1788 {V : Ct_V} {A : Nat → Nat} {q : Lq} {K : Kt} (C : Fx K (Zl V A q) cL_law RL 7 171) (hNW : ∀ w ∈ NWl, va_Nw w K.2.2.2.2.1) (hN : ∀ i, i < 30 → ∀ K2 : Kt, K = K2 → i < K2.2.2.2.2.2.2.2.2.2.2.1) (R : Lr K (Zl V A q)) {E1705 : ((Int32 × Int32 × Wd) ⊕ (Int32 × Wd)) → Prop} {v24_1700 : Int32} {v25_1700 : Int32} {v26_1700 : Int32} {v6_107 : Int32} {v7_114 : Int32} {v8_1621 : Int32} (hJ1912 : ∀ (σ_1912 : Wd) (v27_1912 : Int32), Y K (Zl V A q) (M_L_law_J1912 q σ_1912 v6_107 v7_114 v8_1621 v24_1700 v25_1700 v26_1700 v27_1912) E1705 σ_1912 1912 [(1, .ref (A 0)), (3, .ref (zA (Zl V A q) 0)), (4, .ref (A 1)), (6, .int v6_107), (7, .int v7_114), (8, .int v8_1621), (24, .int v24_1700), (25, .int v25_1700), (26, .int v26_1700), (27, .int v27_1912)] []) (hJ1913 : ∀ (σ_1913 : Wd) (v27_1913 : Int32) (t0_1913 : Int32), Y K (Zl V A q) (M_L_law_J1913 q σ_1913 v6_107 v7_114 v8_1621 v24_1700 v25_1700 v26_1700 v27_1913 t0_1913) E1705 σ_1913 1913 [(1, .ref (A 0)), (3, .ref (zA (Zl V A q) 0)), (4, .ref (A 1)), (6, .int v6_107), (7, .int v7_114), (8, .int v8_1621), (24, .int v24_1700), (25, .int v25_1700), (26, .int v26_1700), (27, .int v27_1913)] [.int t0_1913]) : ∀ (σ_1788 : Wd) (v27_1788 : Int32) (v28_1788 : Int32) (v29_1788 : Int32) (t0_1788 : Int32) (t1_1788 : Int32), Y K (Zl V A q) (M_L_law_J1788 q σ_1788 v6_107 v7_114 v8_1621 v24_1700 v25_1700 v26_1700 v27_1788 v28_1788 v29_1788 t0_1788 t1_1788) E1705 σ_1788 1788 [(1, .ref (A 0)), (3, .ref (zA (Zl V A q) 0)), (4, .ref (A 1)), (6, .int v6_107), (7, .int v7_114), (8, .int v8_1621), (24, .int v24_1700), (25, .int v25_1700), (26, .int v26_1700), (27, .int v27_1788), (28, .int v28_1788), (29, .int v29_1788)] [.int t0_1788, .int t1_1788] := by
  intro σ_1788 v27_1788 v28_1788 v29_1788 t0_1788 t1_1788
  unfold M_L_law_J1788
  refine x_icmp_ne C 1788 1912 dL_law_1788 (by decide) (fun _ => ?_) (fun _ => ?_)
  · refine Y_sub [0, 1, 2, 3, 4, 5, 6, 7, 8, 9] rfl ?_
    exact hJ1912 _ _
  · refine x_iload C 1791 9 dL_law_1791 rfl ?_
    refine x_iload C 1793 8 dL_law_1793 rfl ?_
    have hJ1810 : ∀ (σ_1810 : Wd) (v27_1810 : Int32) (v28_1810 : Int32) (v29_1810 : Int32), Y K (Zl V A q) (M_L_law_J1810 q σ_1810 v6_107 v7_114 v8_1621 v24_1700 v25_1700 v26_1700 v27_1810 v28_1810 v29_1810) E1705 σ_1810 1810 [(1, .ref (A 0)), (3, .ref (zA (Zl V A q) 0)), (4, .ref (A 1)), (6, .int v6_107), (7, .int v7_114), (8, .int v8_1621), (24, .int v24_1700), (25, .int v25_1700), (26, .int v26_1700), (27, .int v27_1810), (28, .int v28_1810), (29, .int v29_1810)] [] := c_LJ1810 C hNW hN R hJ1912 hJ1913
    refine x_icmp_ge C 1795 1810 dL_law_1795 (by decide) (fun _ => ?_) (fun _ => ?_)
    · exact hJ1810 _ _ _ _
    · refine x_aload_n C 1798 1 dL_law_1798 rfl ?_
      refine x_iload C 1799 10 dL_law_1799 rfl ?_
      refine x_iconst C 1801 dL_law_1801 ki_3 ?_
      refine Y_bnd1 (fun r1802 h1802 => ?_)
      refine x_callLV C 1802 [.int v28_1788, .int (3 : Int32)] [] rfl tw_896 mv_X8_write rfl (Nat.le_of_ble_eq_true rfl) (Nat.le_of_ble_eq_true rfl) (Nat.le_of_ble_eq_true rfl) dL_law_1802 (c_X8_write V _ _ _ _ h1802) ?_
      refine x_iload C 1805 9 dL_law_1805 rfl ?_
      refine x_icmp_ne C 1807 1912 dL_law_1807 (by decide) (fun _ => ?_) (fun _ => ?_)
      · refine Y_sub [0, 1, 2, 3, 4, 5, 6, 7, 8, 9] rfl ?_
        exact hJ1912 _ _
      · exact hJ1810 _ _ _ _
set_option maxRecDepth 100000 in
set_option maxHeartbeats 40000000 in
theorem c_LJ1741 {V : Ct_V} {A : Nat → Nat} {q : Lq} {K : Kt} (C : Fx K (Zl V A q) cL_law RL 7 171) (hNW : ∀ w ∈ NWl, va_Nw w K.2.2.2.2.1) (hN : ∀ i, i < 30 → ∀ K2 : Kt, K = K2 → i < K2.2.2.2.2.2.2.2.2.2.2.1) (R : Lr K (Zl V A q)) {E1705 : ((Int32 × Int32 × Wd) ⊕ (Int32 × Wd)) → Prop} {v24_1700 : Int32} {v25_1700 : Int32} {v26_1700 : Int32} {v6_107 : Int32} {v7_114 : Int32} {v8_1621 : Int32} (hb1705 : ∀ s' : Int32 × Int32 × Wd, E1705 (.inl s') → Go K (Zl V A q) ((fun s : Int32 × Int32 × Wd => s.2.2) s') 1705 ((fun s : Int32 × Int32 × Wd => [(1, .ref (A 0)), (3, .ref (zA (Zl V A q) 0)), (4, .ref (A 1)), (5, .int s.1), (6, .int v6_107), (7, .int v7_114), (8, .int v8_1621), (24, .int v24_1700), (25, .int v25_1700), (26, .int v26_1700), (27, .int s.2.1)]) s') []) : ∀ (σ_1741 : Wd) (v5_1741 : Int32) (v27_1741 : Int32) (v28_1741 : Int32) (t0_1741 : Int32), Y K (Zl V A q) (M_L_law_J1741 q σ_1741 v5_1741 v6_107 v7_114 v8_1621 v24_1700 v25_1700 v26_1700 v27_1741 v28_1741 t0_1741) E1705 σ_1741 1741 [(1, .ref (A 0)), (3, .ref (zA (Zl V A q) 0)), (4, .ref (A 1)), (5, .int v5_1741), (6, .int v6_107), (7, .int v7_114), (8, .int v8_1621), (24, .int v24_1700), (25, .int v25_1700), (26, .int v26_1700), (27, .int v27_1741), (28, .int v28_1741)] [.int t0_1741] := by
  intro σ_1741 v5_1741 v27_1741 v28_1741 t0_1741
  unfold M_L_law_J1741
  refine x_istore C 1741 (L' := [(29, .int t0_1741), (1, .ref (A 0)), (3, .ref (zA (Zl V A q) 0)), (4, .ref (A 1)), (5, .int v5_1741), (6, .int v6_107), (7, .int v7_114), (8, .int v8_1621), (24, .int v24_1700), (25, .int v25_1700), (26, .int v26_1700), (27, .int v27_1741), (28, .int v28_1741)]) dL_law_1741 (hN _ (Nat.le_of_ble_eq_true rfl)) rfl ?_
  refine x_iload C 1743 4 dL_law_1743 rfl ?_
  have hJ1913 : ∀ (σ_1913 : Wd) (v27_1913 : Int32) (t0_1913 : Int32), Y K (Zl V A q) (M_L_law_J1913 q σ_1913 v6_107 v7_114 v8_1621 v24_1700 v25_1700 v26_1700 v27_1913 t0_1913) E1705 σ_1913 1913 [(1, .ref (A 0)), (3, .ref (zA (Zl V A q) 0)), (4, .ref (A 1)), (6, .int v6_107), (7, .int v7_114), (8, .int v8_1621), (24, .int v24_1700), (25, .int v25_1700), (26, .int v26_1700), (27, .int v27_1913)] [.int t0_1913] := c_LJ1913 C hNW hN R hb1705
  have hJ1912 : ∀ (σ_1912 : Wd) (v27_1912 : Int32), Y K (Zl V A q) (M_L_law_J1912 q σ_1912 v6_107 v7_114 v8_1621 v24_1700 v25_1700 v26_1700 v27_1912) E1705 σ_1912 1912 [(1, .ref (A 0)), (3, .ref (zA (Zl V A q) 0)), (4, .ref (A 1)), (6, .int v6_107), (7, .int v7_114), (8, .int v8_1621), (24, .int v24_1700), (25, .int v25_1700), (26, .int v26_1700), (27, .int v27_1912)] [] := c_LJ1912 C hNW hN R hJ1913
  refine x_if_eq C 1745 1912 dL_law_1745 (by decide) (fun _ => ?_) (fun _ => ?_)
  · refine Y_sub [1, 2, 3, 5, 6, 7, 8, 9, 10, 11] rfl ?_
    exact hJ1912 _ _
  · refine x_aload_n C 1748 2 dL_law_1748 rfl ?_
    refine x_iload C 1749 12 dL_law_1749 rfl ?_
    refine x_iconst C 1751 dL_law_1751 ki_4 ?_
    refine Y_bnd1 (fun r1752 h1752 => ?_)
    refine x_callLV C 1752 [.int v28_1741, .int (4 : Int32)] [] rfl tw_896 mv_X8_write rfl (Nat.le_of_ble_eq_true rfl) (Nat.le_of_ble_eq_true rfl) (Nat.le_of_ble_eq_true rfl) dL_law_1752 (c_X8_write V _ _ _ _ h1752) ?_
    refine x_iload C 1755 8 dL_law_1755 rfl ?_
    refine x_ishr C 1757 dL_law_1757 ?_
    refine x_iconst C 1758 dL_law_1758 ki_1 ?_
    refine x_iand C 1759 dL_law_1759 ?_
    refine x_iconst C 1760 dL_law_1760 ki_1 ?_
    refine x_icmp_ne C 1761 1912 dL_law_1761 (by decide) (fun _ => ?_) (fun _ => ?_)
    · refine Y_sub [1, 2, 3, 5, 6, 7, 8, 9, 10, 11] rfl ?_
      exact hJ1912 _ _
    · refine x_aload_n C 1764 2 dL_law_1764 rfl ?_
      refine x_iload C 1765 12 dL_law_1765 rfl ?_
      refine x_iconst C 1767 dL_law_1767 ki_5 ?_
      refine Y_bnd1 (fun r1768 h1768 => ?_)
      refine x_callLV C 1768 [.int v28_1741, .int (5 : Int32)] [] rfl tw_896 mv_X8_write rfl (Nat.le_of_ble_eq_true rfl) (Nat.le_of_ble_eq_true rfl) (Nat.le_of_ble_eq_true rfl) dL_law_1768 (c_X8_write V _ _ _ _ h1768) ?_
      refine x_iload C 1771 8 dL_law_1771 rfl ?_
      refine x_ishr C 1773 dL_law_1773 ?_
      refine x_iconst C 1774 dL_law_1774 ki_1 ?_
      refine x_iand C 1775 dL_law_1775 ?_
      refine x_iload C 1776 11 dL_law_1776 rfl ?_
      refine x_iload C 1778 10 dL_law_1778 rfl ?_
      have hJ1788 : ∀ (σ_1788 : Wd) (v27_1788 : Int32) (v28_1788 : Int32) (v29_1788 : Int32) (t0_1788 : Int32) (t1_1788 : Int32), Y K (Zl V A q) (M_L_law_J1788 q σ_1788 v6_107 v7_114 v8_1621 v24_1700 v25_1700 v26_1700 v27_1788 v28_1788 v29_1788 t0_1788 t1_1788) E1705 σ_1788 1788 [(1, .ref (A 0)), (3, .ref (zA (Zl V A q) 0)), (4, .ref (A 1)), (6, .int v6_107), (7, .int v7_114), (8, .int v8_1621), (24, .int v24_1700), (25, .int v25_1700), (26, .int v26_1700), (27, .int v27_1788), (28, .int v28_1788), (29, .int v29_1788)] [.int t0_1788, .int t1_1788] := c_LJ1788 C hNW hN R hJ1912 hJ1913
      refine x_icmp_ge C 1780 1787 dL_law_1780 (by decide) (fun _ => ?_) (fun _ => ?_)
      · refine x_iconst C 1787 dL_law_1787 ki_0 ?_
        refine Y_sub [1, 2, 3, 5, 6, 7, 8, 9, 10, 11, 12, 0] rfl ?_
        exact hJ1788 _ _ _ _ _ _
      · refine x_iconst C 1783 dL_law_1783 ki_1 ?_
        refine x_goto C 1784 1788 dL_law_1784 (by decide) ?_
        refine Y_sub [1, 2, 3, 5, 6, 7, 8, 9, 10, 11, 12, 0] rfl ?_
        exact hJ1788 _ _ _ _ _ _
set_option maxRecDepth 100000 in
set_option maxHeartbeats 40000000 in
theorem c_LL1705 {V : Ct_V} {A : Nat → Nat} {q : Lq} {K : Kt} (C : Fx K (Zl V A q) cL_law RL 7 171) (hNW : ∀ w ∈ NWl, va_Nw w K.2.2.2.2.1) (hN : ∀ i, i < 30 → ∀ K2 : Kt, K = K2 → i < K2.2.2.2.2.2.2.2.2.2.2.1) (R : Lr K (Zl V A q)) {E1626 : ((Int32 × Int32 × Wd) ⊕ (Int32 × Wd)) → Prop} {E1705 : ((Int32 × Int32 × Wd) ⊕ (Int32 × Wd)) → Prop} {v24_1700 : Int32} {v25_1700 : Int32} {v26_1700 : Int32} {v6_107 : Int32} {v7_114 : Int32} {v8_1621 : Int32} (hx1705 : ∀ x, E1705 (.inr x) → ∃ q0, (un2 fun x5_1705 sx_1705 => (M_L_law_J1921 q sx_1705 x5_1705 v6_107 v7_114 v8_1621 v24_1700)) x = some q0 ∧ E1626 q0) (hJ1921 : ∀ (σ_1921 : Wd) (v5_1921 : Int32) (v24_1921 : Int32), Y K (Zl V A q) (M_L_law_J1921 q σ_1921 v5_1921 v6_107 v7_114 v8_1621 v24_1921) E1626 σ_1921 1921 [(1, .ref (A 0)), (3, .ref (zA (Zl V A q) 0)), (4, .ref (A 1)), (5, .int v5_1921), (6, .int v6_107), (7, .int v7_114), (8, .int v8_1621), (24, .int v24_1921)] []) (hb1705 : ∀ s' : Int32 × Int32 × Wd, E1705 (.inl s') → Go K (Zl V A q) ((fun s : Int32 × Int32 × Wd => s.2.2) s') 1705 ((fun s : Int32 × Int32 × Wd => [(1, .ref (A 0)), (3, .ref (zA (Zl V A q) 0)), (4, .ref (A 1)), (5, .int s.1), (6, .int v6_107), (7, .int v7_114), (8, .int v8_1621), (24, .int v24_1700), (25, .int v25_1700), (26, .int v26_1700), (27, .int s.2.1)]) s') []) : ∀ (v5_1705 : Int32) (v27_1705 : Int32) (s_1705 : Wd), Y K (Zl V A q) (M_L_law_L1705 q v6_107 v7_114 v8_1621 v24_1700 v25_1700 v26_1700 v5_1705 v27_1705 s_1705) E1705 s_1705 1705 [(1, .ref (A 0)), (3, .ref (zA (Zl V A q) 0)), (4, .ref (A 1)), (5, .int v5_1705), (6, .int v6_107), (7, .int v7_114), (8, .int v8_1621), (24, .int v24_1700), (25, .int v25_1700), (26, .int v26_1700), (27, .int v27_1705)] [] := by
  intro v5_1705 v27_1705 s_1705
  unfold M_L_law_L1705
  refine x_iload C 1705 10 dL_law_1705 rfl ?_
  refine x_iload C 1707 8 dL_law_1707 rfl ?_
  refine x_icmp_ge C 1709 1921 dL_law_1709 (by decide) (fun _ => ?_) (fun _ => ?_)
  · refine x_ex2 hx1705 v5_1705 s_1705 ?_
    refine Y_sub [0, 1, 2, 3, 4, 5, 6, 7] rfl ?_
    exact hJ1921 _ _ _
  · refine x_aload_n C 1712 1 dL_law_1712 rfl ?_
    refine x_iload C 1713 7 dL_law_1713 rfl ?_
    refine x_iload C 1715 10 dL_law_1715 rfl ?_
    refine Y_bnd2 (fun r1717 s_1717 h1717 => ?_)
    refine x_callLV C 1717 [.int v24_1700, .int v27_1705] [] rfl tw_874 mv_X8_log rfl (Nat.le_of_ble_eq_true rfl) (Nat.le_of_ble_eq_true rfl) (Nat.le_of_ble_eq_true rfl) dL_law_1717 (c_X8_log V _ _ _ _ h1717) ?_
    refine x_istore C 1720 (L' := [(28, .int r1717), (1, .ref (A 0)), (3, .ref (zA (Zl V A q) 0)), (4, .ref (A 1)), (5, .int v5_1705), (6, .int v6_107), (7, .int v7_114), (8, .int v8_1621), (24, .int v24_1700), (25, .int v25_1700), (26, .int v26_1700), (27, .int v27_1705)]) dL_law_1720 (hN _ (Nat.le_of_ble_eq_true rfl)) rfl ?_
    refine x_iload C 1722 11 dL_law_1722 rfl ?_
    have hJ1741 : ∀ (σ_1741 : Wd) (v5_1741 : Int32) (v27_1741 : Int32) (v28_1741 : Int32) (t0_1741 : Int32), Y K (Zl V A q) (M_L_law_J1741 q σ_1741 v5_1741 v6_107 v7_114 v8_1621 v24_1700 v25_1700 v26_1700 v27_1741 v28_1741 t0_1741) E1705 σ_1741 1741 [(1, .ref (A 0)), (3, .ref (zA (Zl V A q) 0)), (4, .ref (A 1)), (5, .int v5_1741), (6, .int v6_107), (7, .int v7_114), (8, .int v8_1621), (24, .int v24_1700), (25, .int v25_1700), (26, .int v26_1700), (27, .int v27_1741), (28, .int v28_1741)] [.int t0_1741] := c_LJ1741 C hNW hN R hb1705
    refine x_if_ne C 1724 1731 dL_law_1724 (by decide) (fun _ => ?_) (fun _ => ?_)
    · refine x_aload_n C 1731 2 dL_law_1731 rfl ?_
      refine x_iload C 1732 8 dL_law_1732 rfl ?_
      refine x_iload C 1734 11 dL_law_1734 rfl ?_
      refine x_iconst C 1736 dL_law_1736 ki_1 ?_
      refine x_isub C 1737 dL_law_1737 ?_
      refine Y_bnd2 (fun r1738 s_1738 h1738 => ?_)
      refine x_callLV C 1738 [.int v24_1700, .int (v27_1705 - (1 : Int32))] [] rfl tw_874 mv_X8_log rfl (Nat.le_of_ble_eq_true rfl) (Nat.le_of_ble_eq_true rfl) (Nat.le_of_ble_eq_true rfl) dL_law_1738 (c_X8_log V _ _ _ _ h1738) ?_
      refine Y_sub [1, 2, 3, 4, 5, 6, 7, 8, 9, 10, 11, 0] rfl ?_
      exact hJ1741 _ _ _ _ _
    · refine x_iconst C 1727 dL_law_1727 ki_m1 ?_
      refine x_goto C 1728 1741 dL_law_1728 (by decide) ?_
      refine Y_sub [1, 2, 3, 4, 5, 6, 7, 8, 9, 10, 11, 0] rfl ?_
      exact hJ1741 _ _ _ _ _
set_option maxRecDepth 100000 in
set_option maxHeartbeats 40000000 in
theorem c_LJ1700 {V : Ct_V} {A : Nat → Nat} {q : Lq} {K : Kt} (C : Fx K (Zl V A q) cL_law RL 7 171) (hNW : ∀ w ∈ NWl, va_Nw w K.2.2.2.2.1) (hN : ∀ i, i < 30 → ∀ K2 : Kt, K = K2 → i < K2.2.2.2.2.2.2.2.2.2.2.1) (R : Lr K (Zl V A q)) {E1626 : ((Int32 × Int32 × Wd) ⊕ (Int32 × Wd)) → Prop} {v6_107 : Int32} {v7_114 : Int32} {v8_1621 : Int32} (hb1626 : ∀ s' : Int32 × Int32 × Wd, E1626 (.inl s') → Go K (Zl V A q) ((fun s : Int32 × Int32 × Wd => s.2.2) s') 1626 ((fun s : Int32 × Int32 × Wd => [(1, .ref (A 0)), (3, .ref (zA (Zl V A q) 0)), (4, .ref (A 1)), (5, .int s.1), (6, .int v6_107), (7, .int v7_114), (8, .int v8_1621), (24, .int s.2.1)]) s') []) : ∀ (σ_1700 : Wd) (v24_1700 : Int32) (v25_1700 : Int32) (v26_1700 : Int32) (t0_1700 : Int32), Y K (Zl V A q) (M_L_law_J1700 q σ_1700 v6_107 v7_114 v8_1621 v24_1700 v25_1700 v26_1700 t0_1700) E1626 σ_1700 1700 [(1, .ref (A 0)), (3, .ref (zA (Zl V A q) 0)), (4, .ref (A 1)), (6, .int v6_107), (7, .int v7_114), (8, .int v8_1621), (24, .int v24_1700), (25, .int v25_1700), (26, .int v26_1700)] [.int t0_1700] := by
  intro σ_1700 v24_1700 v25_1700 v26_1700 t0_1700
  unfold M_L_law_J1700
  refine x_istore C 1700 (L' := [(5, .int t0_1700), (1, .ref (A 0)), (3, .ref (zA (Zl V A q) 0)), (4, .ref (A 1)), (6, .int v6_107), (7, .int v7_114), (8, .int v8_1621), (24, .int v24_1700), (25, .int v25_1700), (26, .int v26_1700)]) dL_law_1700 (hN _ (Nat.le_of_ble_eq_true rfl)) rfl ?_
  refine x_iconst C 1702 dL_law_1702 ki_0 ?_
  refine x_istore C 1703 (L' := [(27, .int (0 : Int32)), (5, .int t0_1700), (1, .ref (A 0)), (3, .ref (zA (Zl V A q) 0)), (4, .ref (A 1)), (6, .int v6_107), (7, .int v7_114), (8, .int v8_1621), (24, .int v24_1700), (25, .int v25_1700), (26, .int v26_1700)]) dL_law_1703 (hN _ (Nat.le_of_ble_eq_true rfl)) rfl ?_
  have hJ1921 : ∀ (σ_1921 : Wd) (v5_1921 : Int32) (v24_1921 : Int32), Y K (Zl V A q) (M_L_law_J1921 q σ_1921 v5_1921 v6_107 v7_114 v8_1621 v24_1921) E1626 σ_1921 1921 [(1, .ref (A 0)), (3, .ref (zA (Zl V A q) 0)), (4, .ref (A 1)), (5, .int v5_1921), (6, .int v6_107), (7, .int v7_114), (8, .int v8_1621), (24, .int v24_1921)] [] := c_LJ1921 C hNW hN R hb1626
  refine Y_sub [2, 3, 4, 1, 5, 6, 7, 8, 9, 10, 0] rfl ?_
  refine x_loop 1705 (fun s : Int32 × Int32 × Wd => s.2.2) (fun s : Int32 × Int32 × Wd => [(1, .ref (A 0)), (3, .ref (zA (Zl V A q) 0)), (4, .ref (A 1)), (5, .int s.1), (6, .int v6_107), (7, .int v7_114), (8, .int v8_1621), (24, .int v24_1700), (25, .int v25_1700), (26, .int v26_1700), (27, .int s.2.1)]) (fun E1705 hb1705 hx1705 s => ?_) FU (t0_1700, (0 : Int32), σ_1700)
  obtain ⟨v5_1705, v27_1705, s_1705⟩ := s
  exact c_LL1705 C hNW hN R hx1705 hJ1921 hb1705 v5_1705 v27_1705 s_1705
set_option maxRecDepth 100000 in
set_option maxHeartbeats 40000000 in
theorem c_LJ1699 {V : Ct_V} {A : Nat → Nat} {q : Lq} {K : Kt} (C : Fx K (Zl V A q) cL_law RL 7 171) (hNW : ∀ w ∈ NWl, va_Nw w K.2.2.2.2.1) (hN : ∀ i, i < 30 → ∀ K2 : Kt, K = K2 → i < K2.2.2.2.2.2.2.2.2.2.2.1) (R : Lr K (Zl V A q)) {E1626 : ((Int32 × Int32 × Wd) ⊕ (Int32 × Wd)) → Prop} {v6_107 : Int32} {v7_114 : Int32} {v8_1621 : Int32} (hJ1700 : ∀ (σ_1700 : Wd) (v24_1700 : Int32) (v25_1700 : Int32) (v26_1700 : Int32) (t0_1700 : Int32), Y K (Zl V A q) (M_L_law_J1700 q σ_1700 v6_107 v7_114 v8_1621 v24_1700 v25_1700 v26_1700 t0_1700) E1626 σ_1700 1700 [(1, .ref (A 0)), (3, .ref (zA (Zl V A q) 0)), (4, .ref (A 1)), (6, .int v6_107), (7, .int v7_114), (8, .int v8_1621), (24, .int v24_1700), (25, .int v25_1700), (26, .int v26_1700)] [.int t0_1700]) : ∀ (σ_1699 : Wd) (v24_1699 : Int32) (v25_1699 : Int32) (v26_1699 : Int32), Y K (Zl V A q) (M_L_law_J1699 q σ_1699 v6_107 v7_114 v8_1621 v24_1699 v25_1699 v26_1699) E1626 σ_1699 1699 [(1, .ref (A 0)), (3, .ref (zA (Zl V A q) 0)), (4, .ref (A 1)), (6, .int v6_107), (7, .int v7_114), (8, .int v8_1621), (24, .int v24_1699), (25, .int v25_1699), (26, .int v26_1699)] [] := by
  intro σ_1699 v24_1699 v25_1699 v26_1699
  unfold M_L_law_J1699
  refine x_iconst C 1699 dL_law_1699 ki_0 ?_
  exact hJ1700 _ _ _ _ _
set_option maxRecDepth 100000 in
set_option maxHeartbeats 40000000 in
theorem c_LL1626 {V : Ct_V} {A : Nat → Nat} {q : Lq} {K : Kt} (C : Fx K (Zl V A q) cL_law RL 7 171) (hNW : ∀ w ∈ NWl, va_Nw w K.2.2.2.2.1) (hN : ∀ i, i < 30 → ∀ K2 : Kt, K = K2 → i < K2.2.2.2.2.2.2.2.2.2.2.1) (R : Lr K (Zl V A q)) {E120 : ((Int32 × Int32 × Wd) ⊕ (Int32 × Wd)) → Prop} {E1626 : ((Int32 × Int32 × Wd) ⊕ (Int32 × Wd)) → Prop} {v6_107 : Int32} {v7_114 : Int32} {v8_1621 : Int32} (hx1626 : ∀ x, E1626 (.inr x) → ∃ q0, (un2 fun x5_1626 sx_1626 => (M_L_law_J1927 q sx_1626 x5_1626 v6_107 v7_114 v8_1621)) x = some q0 ∧ E120 q0) (hJ1927 : ∀ (σ_1927 : Wd) (v5_1927 : Int32) (v8_1927 : Int32), Y K (Zl V A q) (M_L_law_J1927 q σ_1927 v5_1927 v6_107 v7_114 v8_1927) E120 σ_1927 1927 [(1, .ref (A 0)), (3, .ref (zA (Zl V A q) 0)), (4, .ref (A 1)), (5, .int v5_1927), (6, .int v6_107), (7, .int v7_114), (8, .int v8_1927)] []) (hb1626 : ∀ s' : Int32 × Int32 × Wd, E1626 (.inl s') → Go K (Zl V A q) ((fun s : Int32 × Int32 × Wd => s.2.2) s') 1626 ((fun s : Int32 × Int32 × Wd => [(1, .ref (A 0)), (3, .ref (zA (Zl V A q) 0)), (4, .ref (A 1)), (5, .int s.1), (6, .int v6_107), (7, .int v7_114), (8, .int v8_1621), (24, .int s.2.1)]) s') []) : ∀ (v5_1626 : Int32) (v24_1626 : Int32) (s_1626 : Wd), Y K (Zl V A q) (M_L_law_L1626 q v6_107 v7_114 v8_1621 v5_1626 v24_1626 s_1626) E1626 s_1626 1626 [(1, .ref (A 0)), (3, .ref (zA (Zl V A q) 0)), (4, .ref (A 1)), (5, .int v5_1626), (6, .int v6_107), (7, .int v7_114), (8, .int v8_1621), (24, .int v24_1626)] [] := by
  intro v5_1626 v24_1626 s_1626
  unfold M_L_law_L1626
  refine x_iload C 1626 7 dL_law_1626 rfl ?_
  refine x_iload C 1628 4 dL_law_1628 rfl ?_
  refine x_icmp_ge C 1630 1927 dL_law_1630 (by decide) (fun _ => ?_) (fun _ => ?_)
  · refine x_ex2 hx1626 v5_1626 s_1626 ?_
    refine Y_sub [0, 1, 2, 3, 4, 5, 6] rfl ?_
    exact hJ1927 _ _ _
  · refine x_aload_n C 1633 1 dL_law_1633 rfl ?_
    refine x_iload C 1634 7 dL_law_1634 rfl ?_
    refine x_iconst C 1636 dL_law_1636 ki_1 ?_
    refine Y_bnd2 (fun r1637 s_1637 h1637 => ?_)
    refine x_callLV C 1637 [.int v24_1626, .int (1 : Int32)] [] rfl tw_917 mv_X8_copy rfl (Nat.le_of_ble_eq_true rfl) (Nat.le_of_ble_eq_true rfl) (Nat.le_of_ble_eq_true rfl) dL_law_1637 (c_X8_copy V _ _ _ _ h1637) ?_
    refine x_istore C 1640 (L' := [(25, .int r1637), (1, .ref (A 0)), (3, .ref (zA (Zl V A q) 0)), (4, .ref (A 1)), (5, .int v5_1626), (6, .int v6_107), (7, .int v7_114), (8, .int v8_1621), (24, .int v24_1626)]) dL_law_1640 (hN _ (Nat.le_of_ble_eq_true rfl)) rfl ?_
    refine x_aload_n C 1642 2 dL_law_1642 rfl ?_
    refine x_iload C 1643 8 dL_law_1643 rfl ?_
    refine x_iconst C 1645 dL_law_1645 ki_2 ?_
    refine Y_bnd2 (fun r1646 s_1646 h1646 => ?_)
    refine x_callLV C 1646 [.int v24_1626, .int (2 : Int32)] [] rfl tw_917 mv_X8_copy rfl (Nat.le_of_ble_eq_true rfl) (Nat.le_of_ble_eq_true rfl) (Nat.le_of_ble_eq_true rfl) dL_law_1646 (c_X8_copy V _ _ _ _ h1646) ?_
    refine x_istore C 1649 (L' := [(26, .int r1646), (25, .int r1637), (1, .ref (A 0)), (3, .ref (zA (Zl V A q) 0)), (4, .ref (A 1)), (5, .int v5_1626), (6, .int v6_107), (7, .int v7_114), (8, .int v8_1621), (24, .int v24_1626)]) dL_law_1649 (hN _ (Nat.le_of_ble_eq_true rfl)) rfl ?_
    refine x_iload C 1651 5 dL_law_1651 rfl ?_
    have hJ1700 : ∀ (σ_1700 : Wd) (v24_1700 : Int32) (v25_1700 : Int32) (v26_1700 : Int32) (t0_1700 : Int32), Y K (Zl V A q) (M_L_law_J1700 q σ_1700 v6_107 v7_114 v8_1621 v24_1700 v25_1700 v26_1700 t0_1700) E1626 σ_1700 1700 [(1, .ref (A 0)), (3, .ref (zA (Zl V A q) 0)), (4, .ref (A 1)), (6, .int v6_107), (7, .int v7_114), (8, .int v8_1621), (24, .int v24_1700), (25, .int v25_1700), (26, .int v26_1700)] [.int t0_1700] := c_LJ1700 C hNW hN R hb1626
    have hJ1699 : ∀ (σ_1699 : Wd) (v24_1699 : Int32) (v25_1699 : Int32) (v26_1699 : Int32), Y K (Zl V A q) (M_L_law_J1699 q σ_1699 v6_107 v7_114 v8_1621 v24_1699 v25_1699 v26_1699) E1626 σ_1699 1699 [(1, .ref (A 0)), (3, .ref (zA (Zl V A q) 0)), (4, .ref (A 1)), (6, .int v6_107), (7, .int v7_114), (8, .int v8_1621), (24, .int v24_1699), (25, .int v25_1699), (26, .int v26_1699)] [] := c_LJ1699 C hNW hN R hJ1700
    refine x_if_eq C 1653 1699 dL_law_1653 (by decide) (fun _ => ?_) (fun _ => ?_)
    · refine Y_sub [2, 3, 4, 6, 7, 8, 9, 1, 0] rfl ?_
      exact hJ1699 _ _ _ _
    · refine x_iload C 1656 0 dL_law_1656 rfl ?_
      refine x_iload C 1658 1 dL_law_1658 rfl ?_
      refine x_icmp_gt C 1660 1699 dL_law_1660 (by decide) (fun _ => ?_) (fun _ => ?_)
      · refine Y_sub [2, 3, 4, 6, 7, 8, 9, 1, 0] rfl ?_
        exact hJ1699 _ _ _ _
      · refine x_iload C 1663 0 dL_law_1663 rfl ?_
        refine x_aload_n C 1665 3 dL_law_1665 rfl ?_
        refine x_iconst C 1666 dL_law_1666 ki_4 ?_
        refine Y_bnd2 (fun r1667 s_1667 h1667 => ?_)
        refine x_callLV C 1667 [.int (4 : Int32)] [.int r1646] rfl tw_1117 mv_X8_count rfl (Nat.le_of_ble_eq_true rfl) (Nat.le_of_ble_eq_true rfl) (Nat.le_of_ble_eq_true rfl) dL_law_1667 (c_X8_count V _ _ _ h1667) ?_
        refine x_icmp_gt C 1670 1699 dL_law_1670 (by decide) (fun _ => ?_) (fun _ => ?_)
        · refine Y_sub [2, 3, 4, 6, 7, 8, 9, 1, 0] rfl ?_
          exact hJ1699 _ _ _ _
        · refine x_iload C 1673 1 dL_law_1673 rfl ?_
          refine x_aload_n C 1675 3 dL_law_1675 rfl ?_
          refine x_iconst C 1676 dL_law_1676 ki_3 ?_
          refine Y_bnd2 (fun r1677 s_1677 h1677 => ?_)
          refine x_callLV C 1677 [.int (3 : Int32)] [.int r1637] rfl tw_1117 mv_X8_count rfl (Nat.le_of_ble_eq_true rfl) (Nat.le_of_ble_eq_true rfl) (Nat.le_of_ble_eq_true rfl) dL_law_1677 (c_X8_count V _ _ _ h1677) ?_
          refine x_icmp_gt C 1680 1699 dL_law_1680 (by decide) (fun _ => ?_) (fun _ => ?_)
          · refine Y_sub [2, 3, 4, 6, 7, 8, 9, 1, 0] rfl ?_
            exact hJ1699 _ _ _ _
          · refine x_aload_n C 1683 3 dL_law_1683 rfl ?_
            refine x_iload C 1684 9 dL_law_1684 rfl ?_
            refine x_iload C 1686 1 dL_law_1686 rfl ?_
            refine Y_bnd2 (fun r1688 s_1688 h1688 => ?_)
            refine x_callLV C 1688 [.int v24_1626, .int r1637] [] rfl tw_874 mv_X8_log rfl (Nat.le_of_ble_eq_true rfl) (Nat.le_of_ble_eq_true rfl) (Nat.le_of_ble_eq_true rfl) dL_law_1688 (c_X8_log V _ _ _ _ h1688) ?_
            refine x_iconst C 1691 dL_law_1691 ki_m1 ?_
            refine x_icmp_ne C 1692 1699 dL_law_1692 (by decide) (fun _ => ?_) (fun _ => ?_)
            · refine Y_sub [2, 3, 4, 6, 7, 8, 9, 1, 0] rfl ?_
              exact hJ1699 _ _ _ _
            · refine x_iconst C 1695 dL_law_1695 ki_1 ?_
              refine x_goto C 1696 1700 dL_law_1696 (by decide) ?_
              refine Y_sub [2, 3, 4, 6, 7, 8, 9, 1, 0] rfl ?_
              exact hJ1700 _ _ _ _ _
set_option maxRecDepth 100000 in
set_option maxHeartbeats 40000000 in
theorem c_LJ1621 {V : Ct_V} {A : Nat → Nat} {q : Lq} {K : Kt} (C : Fx K (Zl V A q) cL_law RL 7 171) (hNW : ∀ w ∈ NWl, va_Nw w K.2.2.2.2.1) (hN : ∀ i, i < 30 → ∀ K2 : Kt, K = K2 → i < K2.2.2.2.2.2.2.2.2.2.2.1) (R : Lr K (Zl V A q)) {E120 : ((Int32 × Int32 × Wd) ⊕ (Int32 × Wd)) → Prop} {v6_107 : Int32} {v7_114 : Int32} (hb120 : ∀ s' : Int32 × Int32 × Wd, E120 (.inl s') → Go K (Zl V A q) ((fun s : Int32 × Int32 × Wd => s.2.2) s') 120 ((fun s : Int32 × Int32 × Wd => [(1, .ref (A 0)), (3, .ref (zA (Zl V A q) 0)), (4, .ref (A 1)), (5, .int s.1), (6, .int v6_107), (7, .int v7_114), (8, .int s.2.1)]) s') []) : ∀ (σ_1621 : Wd) (v8_1621 : Int32) (t0_1621 : Int32), Y K (Zl V A q) (M_L_law_J1621 q σ_1621 v6_107 v7_114 v8_1621 t0_1621) E120 σ_1621 1621 [(1, .ref (A 0)), (3, .ref (zA (Zl V A q) 0)), (4, .ref (A 1)), (6, .int v6_107), (7, .int v7_114), (8, .int v8_1621)] [.int t0_1621] := by
  intro σ_1621 v8_1621 t0_1621
  unfold M_L_law_J1621
  refine x_istore C 1621 (L' := [(5, .int t0_1621), (1, .ref (A 0)), (3, .ref (zA (Zl V A q) 0)), (4, .ref (A 1)), (6, .int v6_107), (7, .int v7_114), (8, .int v8_1621)]) dL_law_1621 (hN _ (Nat.le_of_ble_eq_true rfl)) rfl ?_
  refine x_iconst C 1623 dL_law_1623 ki_0 ?_
  refine x_istore C 1624 (L' := [(24, .int (0 : Int32)), (5, .int t0_1621), (1, .ref (A 0)), (3, .ref (zA (Zl V A q) 0)), (4, .ref (A 1)), (6, .int v6_107), (7, .int v7_114), (8, .int v8_1621)]) dL_law_1624 (hN _ (Nat.le_of_ble_eq_true rfl)) rfl ?_
  have hJ1927 : ∀ (σ_1927 : Wd) (v5_1927 : Int32) (v8_1927 : Int32), Y K (Zl V A q) (M_L_law_J1927 q σ_1927 v5_1927 v6_107 v7_114 v8_1927) E120 σ_1927 1927 [(1, .ref (A 0)), (3, .ref (zA (Zl V A q) 0)), (4, .ref (A 1)), (5, .int v5_1927), (6, .int v6_107), (7, .int v7_114), (8, .int v8_1927)] [] := c_LJ1927 C hNW hN R hb120
  refine Y_sub [2, 3, 4, 1, 5, 6, 7, 0] rfl ?_
  refine x_loop 1626 (fun s : Int32 × Int32 × Wd => s.2.2) (fun s : Int32 × Int32 × Wd => [(1, .ref (A 0)), (3, .ref (zA (Zl V A q) 0)), (4, .ref (A 1)), (5, .int s.1), (6, .int v6_107), (7, .int v7_114), (8, .int v8_1621), (24, .int s.2.1)]) (fun E1626 hb1626 hx1626 s => ?_) FU (t0_1621, (0 : Int32), σ_1621)
  obtain ⟨v5_1626, v24_1626, s_1626⟩ := s
  exact c_LL1626 C hNW hN R hx1626 hJ1927 hb1626 v5_1626 v24_1626 s_1626
set_option maxRecDepth 100000 in
set_option maxHeartbeats 40000000 in
theorem c_LJ1620 {V : Ct_V} {A : Nat → Nat} {q : Lq} {K : Kt} (C : Fx K (Zl V A q) cL_law RL 7 171) (hNW : ∀ w ∈ NWl, va_Nw w K.2.2.2.2.1) (hN : ∀ i, i < 30 → ∀ K2 : Kt, K = K2 → i < K2.2.2.2.2.2.2.2.2.2.2.1) (R : Lr K (Zl V A q)) {E120 : ((Int32 × Int32 × Wd) ⊕ (Int32 × Wd)) → Prop} {v6_107 : Int32} {v7_114 : Int32} (hJ1621 : ∀ (σ_1621 : Wd) (v8_1621 : Int32) (t0_1621 : Int32), Y K (Zl V A q) (M_L_law_J1621 q σ_1621 v6_107 v7_114 v8_1621 t0_1621) E120 σ_1621 1621 [(1, .ref (A 0)), (3, .ref (zA (Zl V A q) 0)), (4, .ref (A 1)), (6, .int v6_107), (7, .int v7_114), (8, .int v8_1621)] [.int t0_1621]) : ∀ (σ_1620 : Wd) (v8_1620 : Int32), Y K (Zl V A q) (M_L_law_J1620 q σ_1620 v6_107 v7_114 v8_1620) E120 σ_1620 1620 [(1, .ref (A 0)), (3, .ref (zA (Zl V A q) 0)), (4, .ref (A 1)), (6, .int v6_107), (7, .int v7_114), (8, .int v8_1620)] [] := by
  intro σ_1620 v8_1620
  unfold M_L_law_J1620
  refine x_iconst C 1620 dL_law_1620 ki_0 ?_
  exact hJ1621 _ _ _
