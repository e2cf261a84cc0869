/-! the law: the machine does what the program tells -/
set_option maxRecDepth 100000 in
set_option maxHeartbeats 40000000 in
theorem c_LJ3495 {V : Ct_V} {A : Nat → Nat} {q : Lq} {K : Kt} (C : Fx K (Zl V A q) cL_law RL 7 171) (hNW : ∀ w ∈ NWl, va_Nw w K.2.2.2.2.1) (hN : ∀ i, i < 30 → ∀ K2 : Kt, K = K2 → i < K2.2.2.2.2.2.2.2.2.2.2.1) (R : Lr K (Zl V A q))   : ∀ (σ_3495 : Wd) (v5_3495 : Int32) (v8_3495 : Int32) (v9_3495 : Int32) (v10_3495 : Int32), Y K (Zl V A q) (M_L_law_J3495 q σ_3495 v5_3495 v8_3495 v9_3495 v10_3495) (fun q : Int32 × Wd => q.1 = 1) σ_3495 3495 [(3, .ref (zA (Zl V A q) 0)), (5, .int v5_3495), (8, .int v8_3495), (9, .int v9_3495), (10, .int v10_3495)] [] := by
  intro σ_3495 v5_3495 v8_3495 v9_3495 v10_3495
  unfold M_L_law_J3495
  refine x_iload C 3495 1 dL_law_3495 rfl ?_
  refine x_if_eq C 3497 3560 dL_law_3497 (by decide) (fun _ => ?_) (fun _ => ?_)
  · refine x_iconst C 3560 dL_law_3560 ki_0 ?_
    exact x_lawret C R 3561 (zb_nar (r := (0 : Int32)) (Or.inl rfl)) dL_law_3561
  · refine x_aload_n C 3500 0 dL_law_3500 rfl ?_
    refine x_iconst C 3501 dL_law_3501 ki_3 ?_
    refine Y_bnd2 (fun r3502 s_3502 h3502 => ?_)
    refine x_callLV C 3502 [.int (3 : Int32)] [] rfl tw_1117 mv_X8_count rfl (Nat.le_of_ble_eq_true rfl) (Nat.le_of_ble_eq_true rfl) (Nat.le_of_ble_eq_true rfl) dL_law_3502 (c_X8_count V _ _ _ h3502) ?_
    refine x_iload C 3505 2 dL_law_3505 rfl ?_
    refine x_icmp_ne C 3507 3560 dL_law_3507 (by decide) (fun _ => ?_) (fun _ => ?_)
    · refine x_iconst C 3560 dL_law_3560 ki_0 ?_
      exact x_lawret C R 3561 (zb_nar (r := (0 : Int32)) (Or.inl rfl)) dL_law_3561
    · refine x_aload_n C 3510 0 dL_law_3510 rfl ?_
      refine x_iconst C 3511 dL_law_3511 ki_4 ?_
      refine Y_bnd2 (fun r3512 s_3512 h3512 => ?_)
      refine x_callLV C 3512 [.int (4 : Int32)] [] rfl tw_1117 mv_X8_count rfl (Nat.le_of_ble_eq_true rfl) (Nat.le_of_ble_eq_true rfl) (Nat.le_of_ble_eq_true rfl) dL_law_3512 (c_X8_count V _ _ _ h3512) ?_
      refine x_iload C 3515 3 dL_law_3515 rfl ?_
      refine x_icmp_ne C 3517 3560 dL_law_3517 (by decide) (fun _ => ?_) (fun _ => ?_)
      · refine x_iconst C 3560 dL_law_3560 ki_0 ?_
        exact x_lawret C R 3561 (zb_nar (r := (0 : Int32)) (Or.inl rfl)) dL_law_3561
      · refine x_aload_n C 3520 0 dL_law_3520 rfl ?_
        refine x_bipush C 3521 dL_law_3521 kb_7 ?_
        refine Y_bnd2 (fun r3523 s_3523 h3523 => ?_)
        refine x_callLV C 3523 [.int (7 : Int32)] [] rfl tw_1117 mv_X8_count rfl (Nat.le_of_ble_eq_true rfl) (Nat.le_of_ble_eq_true rfl) (Nat.le_of_ble_eq_true rfl) dL_law_3523 (c_X8_count V _ _ _ h3523) ?_
        refine x_iload C 3526 4 dL_law_3526 rfl ?_
        refine x_icmp_ne C 3528 3560 dL_law_3528 (by decide) (fun _ => ?_) (fun _ => ?_)
        · refine x_iconst C 3560 dL_law_3560 ki_0 ?_
          exact x_lawret C R 3561 (zb_nar (r := (0 : Int32)) (Or.inl rfl)) dL_law_3561
        · refine x_aload_n C 3531 0 dL_law_3531 rfl ?_
          refine x_iconst C 3532 dL_law_3532 ki_0 ?_
          refine Y_bnd2 (fun r3533 s_3533 h3533 => ?_)
          refine x_callLV C 3533 [.int (0 : Int32)] [] rfl tw_1113 mv_X8_restore rfl (Nat.le_of_ble_eq_true rfl) (Nat.le_of_ble_eq_true rfl) (Nat.le_of_ble_eq_true rfl) dL_law_3533 (c_X8_restore V _ _ _ h3533) ?_
          refine x_if_eq C 3536 3560 dL_law_3536 (by decide) (fun _ => ?_) (fun _ => ?_)
          · refine x_iconst C 3560 dL_law_3560 ki_0 ?_
            exact x_lawret C R 3561 (zb_nar (r := (0 : Int32)) (Or.inl rfl)) dL_law_3561
          · refine x_aload_n C 3539 0 dL_law_3539 rfl ?_
            refine x_bipush C 3540 dL_law_3540 kb_9 ?_
            refine Y_bnd2 (fun r3542 s_3542 h3542 => ?_)
            refine x_callLV C 3542 [.int (9 : Int32)] [] rfl tw_1117 mv_X8_count rfl (Nat.le_of_ble_eq_true rfl) (Nat.le_of_ble_eq_true rfl) (Nat.le_of_ble_eq_true rfl) dL_law_3542 (c_X8_count V _ _ _ h3542) ?_
            refine x_if_ne C 3545 3560 dL_law_3545 (by decide) (fun _ => ?_) (fun _ => ?_)
            · refine x_iconst C 3560 dL_law_3560 ki_0 ?_
              exact x_lawret C R 3561 (zb_nar (r := (0 : Int32)) (Or.inl rfl)) dL_law_3561
            · refine x_aload_n C 3548 0 dL_law_3548 rfl ?_
              refine x_iconst C 3549 dL_law_3549 ki_1 ?_
              refine Y_bnd2 (fun r3550 s_3550 h3550 => ?_)
              refine x_callLV C 3550 [.int (1 : Int32)] [] rfl tw_1113 mv_X8_restore rfl (Nat.le_of_ble_eq_true rfl) (Nat.le_of_ble_eq_true rfl) (Nat.le_of_ble_eq_true rfl) dL_law_3550 (c_X8_restore V _ _ _ h3550) ?_
              refine x_if_ne C 3553 3560 dL_law_3553 (by decide) (fun _ => ?_) (fun _ => ?_)
              · refine x_iconst C 3560 dL_law_3560 ki_0 ?_
                exact x_lawret C R 3561 (zb_nar (r := (0 : Int32)) (Or.inl rfl)) dL_law_3561
              · refine x_iconst C 3556 dL_law_3556 ki_1 ?_
                refine x_goto C 3557 3561 dL_law_3557 (by decide) ?_
                exact x_lawret C R 3561 (zb_nar (r := (1 : Int32)) (Or.inr rfl)) dL_law_3561
set_option maxRecDepth 100000 in
set_option maxHeartbeats 40000000 in
theorem c_LJ3493 {V : Ct_V} {A : Nat → Nat} {q : Lq} {K : Kt} (C : Fx K (Zl V A q) cL_law RL 7 171) (hNW : ∀ w ∈ NWl, va_Nw w K.2.2.2.2.1) (hN : ∀ i, i < 30 → ∀ K2 : Kt, K = K2 → i < K2.2.2.2.2.2.2.2.2.2.2.1) (R : Lr K (Zl V A q))  (hJ3495 : ∀ (σ_3495 : Wd) (v5_3495 : Int32) (v8_3495 : Int32) (v9_3495 : Int32) (v10_3495 : Int32), Y K (Zl V A q) (M_L_law_J3495 q σ_3495 v5_3495 v8_3495 v9_3495 v10_3495) (fun q : Int32 × Wd => q.1 = 1) σ_3495 3495 [(3, .ref (zA (Zl V A q) 0)), (5, .int v5_3495), (8, .int v8_3495), (9, .int v9_3495), (10, .int v10_3495)] []) : ∀ (σ_3493 : Wd) (v8_3493 : Int32) (v9_3493 : Int32) (v10_3493 : Int32) (t0_3493 : Int32), Y K (Zl V A q) (M_L_law_J3493 q σ_3493 v8_3493 v9_3493 v10_3493 t0_3493) (fun q : Int32 × Wd => q.1 = 1) σ_3493 3493 [(3, .ref (zA (Zl V A q) 0)), (8, .int v8_3493), (9, .int v9_3493), (10, .int v10_3493)] [.int t0_3493] := by
  intro σ_3493 v8_3493 v9_3493 v10_3493 t0_3493
  unfold M_L_law_J3493
  refine x_istore C 3493 (L' := [(5, .int t0_3493), (3, .ref (zA (Zl V A q) 0)), (8, .int v8_3493), (9, .int v9_3493), (10, .int v10_3493)]) dL_law_3493 (hN _ (Nat.le_of_ble_eq_true rfl)) rfl ?_
  refine Y_sub [1, 0, 2, 3, 4] rfl ?_
  exact hJ3495 _ _ _ _ _
set_option maxRecDepth 100000 in
set_option maxHeartbeats 40000000 in
theorem c_LJ3492 {V : Ct_V} {A : Nat → Nat} {q : Lq} {K : Kt} (C : Fx K (Zl V A q) cL_law RL 7 171) (hNW : ∀ w ∈ NWl, va_Nw w K.2.2.2.2.1) (hN : ∀ i, i < 30 → ∀ K2 : Kt, K = K2 → i < K2.2.2.2.2.2.2.2.2.2.2.1) (R : Lr K (Zl V A q))  (hJ3493 : ∀ (σ_3493 : Wd) (v8_3493 : Int32) (v9_3493 : Int32) (v10_3493 : Int32) (t0_3493 : Int32), Y K (Zl V A q) (M_L_law_J3493 q σ_3493 v8_3493 v9_3493 v10_3493 t0_3493) (fun q : Int32 × Wd => q.1 = 1) σ_3493 3493 [(3, .ref (zA (Zl V A q) 0)), (8, .int v8_3493), (9, .int v9_3493), (10, .int v10_3493)] [.int t0_3493]) : ∀ (σ_3492 : Wd) (v8_3492 : Int32) (v9_3492 : Int32) (v10_3492 : Int32), Y K (Zl V A q) (M_L_law_J3492 q σ_3492 v8_3492 v9_3492 v10_3492) (fun q : Int32 × Wd => q.1 = 1) σ_3492 3492 [(3, .ref (zA (Zl V A q) 0)), (8, .int v8_3492), (9, .int v9_3492), (10, .int v10_3492)] [] := by
  intro σ_3492 v8_3492 v9_3492 v10_3492
  unfold M_L_law_J3492
  refine x_iconst C 3492 dL_law_3492 ki_0 ?_
  exact hJ3493 _ _ _ _ _
set_option maxRecDepth 100000 in
set_option maxHeartbeats 40000000 in
theorem c_LJ3475 {V : Ct_V} {A : Nat → Nat} {q : Lq} {K : Kt} (C : Fx K (Zl V A q) cL_law RL 7 171) (hNW : ∀ w ∈ NWl, va_Nw w K.2.2.2.2.1) (hN : ∀ i, i < 30 → ∀ K2 : Kt, K = K2 → i < K2.2.2.2.2.2.2.2.2.2.2.1) (R : Lr K (Zl V A q))  (hJ3495 : ∀ (σ_3495 : Wd) (v5_3495 : Int32) (v8_3495 : Int32) (v9_3495 : Int32) (v10_3495 : Int32), Y K (Zl V A q) (M_L_law_J3495 q σ_3495 v5_3495 v8_3495 v9_3495 v10_3495) (fun q : Int32 × Wd => q.1 = 1) σ_3495 3495 [(3, .ref (zA (Zl V A q) 0)), (5, .int v5_3495), (8, .int v8_3495), (9, .int v9_3495), (10, .int v10_3495)] []) : ∀ (σ_3475 : Wd) (v5_3475 : Int32) (v8_3475 : Int32) (v9_3475 : Int32) (v10_3475 : Int32), Y K (Zl V A q) (M_L_law_J3475 q σ_3475 v5_3475 v8_3475 v9_3475 v10_3475) (fun q : Int32 × Wd => q.1 = 1) σ_3475 3475 [(3, .ref (zA (Zl V A q) 0)), (5, .int v5_3475), (8, .int v8_3475), (9, .int v9_3475), (10, .int v10_3475)] [] := by
  intro σ_3475 v5_3475 v8_3475 v9_3475 v10_3475
  unfold M_L_law_J3475
  refine x_iload C 3475 1 dL_law_3475 rfl ?_
  have hJ3493 : ∀ (σ_3493 : Wd) (v8_3493 : Int32) (v9_3493 : Int32) (v10_3493 : Int32) (t0_3493 : Int32), Y K (Zl V A q) (M_L_law_J3493 q σ_3493 v8_3493 v9_3493 v10_3493 t0_3493) (fun q : Int32 × Wd => q.1 = 1) σ_3493 3493 [(3, .ref (zA (Zl V A q) 0)), (8, .int v8_3493), (9, .int v9_3493), (10, .int v10_3493)] [.int t0_3493] := c_LJ3493 C hNW hN R hJ3495
  have hJ3492 : ∀ (σ_3492 : Wd) (v8_3492 : Int32) (v9_3492 : Int32) (v10_3492 : Int32), Y K (Zl V A q) (M_L_law_J3492 q σ_3492 v8_3492 v9_3492 v10_3492) (fun q : Int32 × Wd => q.1 = 1) σ_3492 3492 [(3, .ref (zA (Zl V A q) 0)), (8, .int v8_3492), (9, .int v9_3492), (10, .int v10_3492)] [] := c_LJ3492 C hNW hN R hJ3493
  refine x_if_eq C 3477 3492 dL_law_3477 (by decide) (fun _ => ?_) (fun _ => ?_)
  · refine Y_sub [0, 2, 3, 4] rfl ?_
    exact hJ3492 _ _ _ _
  · refine x_aload_n C 3480 0 dL_law_3480 rfl ?_
    refine x_iconst C 3481 dL_law_3481 ki_0 ?_
    refine Y_bnd2 (fun r3482 s_3482 h3482 => ?_)
    refine x_callLV C 3482 [.int (0 : Int32)] [] rfl tw_1113 mv_X8_restore rfl (Nat.le_of_ble_eq_true rfl) (Nat.le_of_ble_eq_true rfl) (Nat.le_of_ble_eq_true rfl) dL_law_3482 (c_X8_restore V _ _ _ h3482) ?_
    refine x_if_eq C 3485 3492 dL_law_3485 (by decide) (fun _ => ?_) (fun _ => ?_)
    · refine Y_sub [0, 2, 3, 4] rfl ?_
      exact hJ3492 _ _ _ _
    · refine x_iconst C 3488 dL_law_3488 ki_1 ?_
      refine x_goto C 3489 3493 dL_law_3489 (by decide) ?_
      refine Y_sub [0, 2, 3, 4] rfl ?_
      exact hJ3493 _ _ _ _ _
set_option maxRecDepth 100000 in
set_option maxHeartbeats 40000000 in
theorem c_LJ3467 {V : Ct_V} {A : Nat → Nat} {q : Lq} {K : Kt} (C : Fx K (Zl V A q) cL_law RL 7 171) (hNW : ∀ w ∈ NWl, va_Nw w K.2.2.2.2.1) (hN : ∀ i, i < 30 → ∀ K2 : Kt, K = K2 → i < K2.2.2.2.2.2.2.2.2.2.2.1) (R : Lr K (Zl V A q)) {E3293 : ((Int32 × Int32 × Wd) ⊕ (Int32 × Wd)) → Prop} {r3285 : Int32} {t0_3264 : Int32} {v10_3264 : Int32} {v17_3264 : Int32} {v6_3264 : Int32} {v8_3264 : Int32} {v9_3264 : Int32} (hb3293 : ∀ s' : Int32 × Int32 × Wd, E3293 (.inl s') → Go K (Zl V A q) ((fun s : Int32 × Int32 × Wd => s.2.2) s') 3293 ((fun s : Int32 × Int32 × Wd => [(3, .ref (zA (Zl V A q) 0)), (5, .int s.1), (6, .int v6_3264), (8, .int v8_3264), (9, .int v9_3264), (10, .int v10_3264), (17, .int v17_3264), (18, .int t0_3264), (19, .int r3285), (20, .int s.2.1)]) s') []) : ∀ (σ_3467 : Wd) (v20_3467 : Int32) (t0_3467 : Int32), Y K (Zl V A q) (M_L_law_J3467 q σ_3467 v6_3264 v8_3264 v9_3264 v10_3264 v17_3264 t0_3264 r3285 v20_3467 t0_3467) E3293 σ_3467 3467 [(3, .ref (zA (Zl V A q) 0)), (6, .int v6_3264), (8, .int v8_3264), (9, .int v9_3264), (10, .int v10_3264), (17, .int v17_3264), (18, .int t0_3264), (19, .int r3285), (20, .int v20_3467)] [.int t0_3467] := by
  intro σ_3467 v20_3467 t0_3467
  unfold M_L_law_J3467
  refine x_istore C 3467 (L' := [(5, .int t0_3467), (3, .ref (zA (Zl V A q) 0)), (6, .int v6_3264), (8, .int v8_3264), (9, .int v9_3264), (10, .int v10_3264), (17, .int v17_3264), (18, .int t0_3264), (19, .int r3285), (20, .int v20_3467)]) dL_law_3467 (hN _ (Nat.le_of_ble_eq_true rfl)) rfl ?_
  refine x_iinct C 3469 9 (1 : Int32) (fun v20_3469 => [(20, .int v20_3469), (5, .int t0_3467), (3, .ref (zA (Zl V A q) 0)), (6, .int v6_3264), (8, .int v8_3264), (9, .int v9_3264), (10, .int v10_3264), (17, .int v17_3264), (18, .int t0_3264), (19, .int r3285)]) dL_law_3469 rfl ki_1 (hN _ (Nat.le_of_ble_eq_true rfl)) (fun _ => rfl) (fun v20_3469 => ?_)
  refine x_goto C 3472 3293 dL_law_3472 (by decide) ?_
  refine Y_sub [2, 1, 3, 4, 5, 6, 7, 8, 9, 0] rfl ?_
  exact x_back (t0_3467, v20_3469, σ_3467) (hb3293 (t0_3467, v20_3469, σ_3467))
set_option maxRecDepth 100000 in
set_option maxHeartbeats 40000000 in
theorem c_LJ3466 {V : Ct_V} {A : Nat → Nat} {q : Lq} {K : Kt} (C : Fx K (Zl V A q) cL_law RL 7 171) (hNW : ∀ w ∈ NWl, va_Nw w K.2.2.2.2.1) (hN : ∀ i, i < 30 → ∀ K2 : Kt, K = K2 → i < K2.2.2.2.2.2.2.2.2.2.2.1) (R : Lr K (Zl V A q)) {E3293 : ((Int32 × Int32 × Wd) ⊕ (Int32 × Wd)) → Prop} {r3285 : Int32} {t0_3264 : Int32} {v10_3264 : Int32} {v17_3264 : Int32} {v6_3264 : Int32} {v8_3264 : Int32} {v9_3264 : Int32} (hJ3467 : ∀ (σ_3467 : Wd) (v20_3467 : Int32) (t0_3467 : Int32), Y K (Zl V A q) (M_L_law_J3467 q σ_3467 v6_3264 v8_3264 v9_3264 v10_3264 v17_3264 t0_3264 r3285 v20_3467 t0_3467) E3293 σ_3467 3467 [(3, .ref (zA (Zl V A q) 0)), (6, .int v6_3264), (8, .int v8_3264), (9, .int v9_3264), (10, .int v10_3264), (17, .int v17_3264), (18, .int t0_3264), (19, .int r3285), (20, .int v20_3467)] [.int t0_3467]) : ∀ (σ_3466 : Wd) (v20_3466 : Int32), Y K (Zl V A q) (M_L_law_J3466 q σ_3466 v6_3264 v8_3264 v9_3264 v10_3264 v17_3264 t0_3264 r3285 v20_3466) E3293 σ_3466 3466 [(3, .ref (zA (Zl V A q) 0)), (6, .int v6_3264), (8, .int v8_3264), (9, .int v9_3264), (10, .int v10_3264), (17, .int v17_3264), (18, .int t0_3264), (19, .int r3285), (20, .int v20_3466)] [] := by
  intro σ_3466 v20_3466
  unfold M_L_law_J3466
  refine x_iconst C 3466 dL_law_3466 ki_0 ?_
  exact hJ3467 _ _ _
set_option maxRecDepth 100000 in
set_option maxHeartbeats 40000000 in
theorem c_LJ3462 {V : Ct_V} {A : Nat → Nat} {q : Lq} {K : Kt} (C : Fx K (Zl V A q) cL_law RL 7 171) (hNW : ∀ w ∈ NWl, va_Nw w K.2.2.2.2.1) (hN : ∀ i, i < 30 → ∀ K2 : Kt, K = K2 → i < K2.2.2.2.2.2.2.2.2.2.2.1) (R : Lr K (Zl V A q)) {E3293 : ((Int32 × Int32 × Wd) ⊕ (Int32 × Wd)) → Prop} {r3285 : Int32} {t0_3264 : Int32} {v10_3264 : Int32} {v17_3264 : Int32} {v6_3264 : Int32} {v8_3264 : Int32} {v9_3264 : Int32} (hJ3467 : ∀ (σ_3467 : Wd) (v20_3467 : Int32) (t0_3467 : Int32), Y K (Zl V A q) (M_L_law_J3467 q σ_3467 v6_3264 v8_3264 v9_3264 v10_3264 v17_3264 t0_3264 r3285 v20_3467 t0_3467) E3293 σ_3467 3467 [(3, .ref (zA (Zl V A q) 0)), (6, .int v6_3264), (8, .int v8_3264), (9, .int v9_3264), (10, .int v10_3264), (17, .int v17_3264), (18, .int t0_3264), (19, .int r3285), (20, .int v20_3467)] [.int t0_3467]) : ∀ (σ_3462 : Wd) (v20_3462 : Int32), Y K (Zl V A q) (M_L_law_J3462 q σ_3462 v6_3264 v8_3264 v9_3264 v10_3264 v17_3264 t0_3264 r3285 v20_3462) E3293 σ_3462 3462 [(3, .ref (zA (Zl V A q) 0)), (6, .int v6_3264), (8, .int v8_3264), (9, .int v9_3264), (10, .int v10_3264), (17, .int v17_3264), (18, .int t0_3264), (19, .int r3285), (20, .int v20_3462)] [] := by
  intro σ_3462 v20_3462
  unfold M_L_law_J3462
  refine x_iconst C 3462 dL_law_3462 ki_1 ?_
  refine x_goto C 3463 3467 dL_law_3463 (by decide) ?_
  exact hJ3467 _ _ _
set_option maxRecDepth 100000 in
set_option maxHeartbeats 40000000 in
theorem c_LJ3394 {V : Ct_V} {A : Nat → Nat} {q : Lq} {K : Kt} (C : Fx K (Zl V A q) cL_law RL 7 171) (hNW : ∀ w ∈ NWl, va_Nw w K.2.2.2.2.1) (hN : ∀ i, i < 30 → ∀ K2 : Kt, K = K2 → i < K2.2.2.2.2.2.2.2.2.2.2.1) (R : Lr K (Zl V A q)) {E3293 : ((Int32 × Int32 × Wd) ⊕ (Int32 × Wd)) → Prop} {r3285 : Int32} {t0_3264 : Int32} {v10_3264 : Int32} {v17_3264 : Int32} {v6_3264 : Int32} {v8_3264 : Int32} {v9_3264 : Int32} (hJ3466 : ∀ (σ_3466 : Wd) (v20_3466 : Int32), Y K (Zl V A q) (M_L_law_J3466 q σ_3466 v6_3264 v8_3264 v9_3264 v10_3264 v17_3264 t0_3264 r3285 v20_3466) E3293 σ_3466 3466 [(3, .ref (zA (Zl V A q) 0)), (6, .int v6_3264), (8, .int v8_3264), (9, .int v9_3264), (10, .int v10_3264), (17, .int v17_3264), (18, .int t0_3264), (19, .int r3285), (20, .int v20_3466)] []) (hJ3467 : ∀ (σ_3467 : Wd) (v20_3467 : Int32) (t0_3467 : Int32), Y K (Zl V A q) (M_L_law_J3467 q σ_3467 v6_3264 v8_3264 v9_3264 v10_3264 v17_3264 t0_3264 r3285 v20_3467 t0_3467) E3293 σ_3467 3467 [(3, .ref (zA (Zl V A q) 0)), (6, .int v6_3264), (8, .int v8_3264), (9, .int v9_3264), (10, .int v10_3264), (17, .int v17_3264), (18, .int t0_3264), (19, .int r3285), (20, .int v20_3467)] [.int t0_3467]) : ∀ (σ_3394 : Wd) (v20_3394 : Int32) (v21_3394 : Int32) (v22_3394 : Int32) (t0_3394 : Int32), Y K (Zl V A q) (M_L_law_J3394 q σ_3394 v6_3264 v8_3264 v9_3264 v10_3264 v17_3264 t0_3264 r3285 v20_3394 v21_3394 v22_3394 t0_3394) E3293 σ_3394 3394 [(3, .ref (zA (Zl V A q) 0)), (6, .int v6_3264), (8, .int v8_3264), (9, .int v9_3264), (10, .int v10_3264), (17, .int v17_3264), (18, .int t0_3264), (19, .int r3285), (20, .int v20_3394), (21, .int v21_3394), (22, .int v22_3394)] [.int t0_3394] := by
  intro σ_3394 v20_3394 v21_3394 v22_3394 t0_3394
  unfold M_L_law_J3394
  refine x_iload C 3394 10 dL_law_3394 rfl ?_
  refine x_icmp_ne C 3396 3466 dL_law_3396 (by decide) (fun _ => ?_) (fun _ => ?_)
  · refine Y_sub [0, 1, 2, 3, 4, 5, 6, 7, 8] rfl ?_
    exact hJ3466 _ _
  · refine x_aload_n C 3399 0 dL_law_3399 rfl ?_
    refine x_iconst C 3400 dL_law_3400 ki_1 ?_
    refine x_iconst C 3401 dL_law_3401 ki_1 ?_
    refine Y_bnd1 (fun r3402 h3402 => ?_)
    refine x_callLV C 3402 [.int (1 : Int32), .int (1 : Int32)] [] rfl tw_1034 mv_X8_may rfl (Nat.le_of_ble_eq_true rfl) (Nat.le_of_ble_eq_true rfl) (Nat.le_of_ble_eq_true rfl) dL_law_3402 (c_X8_may V _ _ _ _ h3402) ?_
    refine x_iload C 3405 8 dL_law_3405 rfl ?_
    refine x_ishr C 3407 dL_law_3407 ?_
    refine x_iconst C 3408 dL_law_3408 ki_1 ?_
    refine x_iand C 3409 dL_law_3409 ?_
    refine x_iload C 3410 9 dL_law_3410 rfl ?_
    refine x_icmp_ne C 3412 3466 dL_law_3412 (by decide) (fun _ => ?_) (fun _ => ?_)
    · refine Y_sub [0, 1, 2, 3, 4, 5, 6, 7, 8] rfl ?_
      exact hJ3466 _ _
    · refine x_aload_n C 3415 0 dL_law_3415 rfl ?_
      refine x_iconst C 3416 dL_law_3416 ki_1 ?_
      refine x_iload C 3417 8 dL_law_3417 rfl ?_
      refine x_iconst C 3419 dL_law_3419 ki_0 ?_
      refine Y_bnd2 (fun r3420 s_3420 h3420 => ?_)
      refine x_callLV C 3420 [.int (1 : Int32), .int v20_3394, .int (0 : Int32)] [] rfl tw_732 mv_X8_ask rfl (Nat.le_of_ble_eq_true rfl) (Nat.le_of_ble_eq_true rfl) (Nat.le_of_ble_eq_true rfl) dL_law_3420 (c_X8_ask V _ _ _ _ _ h3420) ?_
      refine x_iload C 3423 9 dL_law_3423 rfl ?_
      refine x_icmp_ne C 3425 3466 dL_law_3425 (by decide) (fun _ => ?_) (fun _ => ?_)
      · refine Y_sub [0, 1, 2, 3, 4, 5, 6, 7, 8] rfl ?_
        exact hJ3466 _ _
      · refine x_iload C 3428 9 dL_law_3428 rfl ?_
        have hJ3462 : ∀ (σ_3462 : Wd) (v20_3462 : Int32), Y K (Zl V A q) (M_L_law_J3462 q σ_3462 v6_3264 v8_3264 v9_3264 v10_3264 v17_3264 t0_3264 r3285 v20_3462) E3293 σ_3462 3462 [(3, .ref (zA (Zl V A q) 0)), (6, .int v6_3264), (8, .int v8_3264), (9, .int v9_3264), (10, .int v10_3264), (17, .int v17_3264), (18, .int t0_3264), (19, .int r3285), (20, .int v20_3462)] [] := c_LJ3462 C hNW hN R hJ3467
        refine x_if_eq C 3430 3462 dL_law_3430 (by decide) (fun _ => ?_) (fun _ => ?_)
        · refine Y_sub [0, 1, 2, 3, 4, 5, 6, 7, 8] rfl ?_
          exact hJ3462 _ _
        · refine x_iload C 3433 7 dL_law_3433 rfl ?_
          refine x_if_lt C 3435 3462 dL_law_3435 (by decide) (fun _ => ?_) (fun _ => ?_)
          · refine Y_sub [0, 1, 2, 3, 4, 5, 6, 7, 8] rfl ?_
            exact hJ3462 _ _
          · refine x_aload_n C 3438 0 dL_law_3438 rfl ?_
            refine x_iload C 3439 5 dL_law_3439 rfl ?_
            refine x_iload C 3441 8 dL_law_3441 rfl ?_
            refine Y_bnd1 (fun r3443 h3443 => ?_)
            refine x_callLV C 3443 [.int v17_3264, .int v20_3394] [] rfl tw_967 mv_X8_lacks rfl (Nat.le_of_ble_eq_true rfl) (Nat.le_of_ble_eq_true rfl) (Nat.le_of_ble_eq_true rfl) dL_law_3443 (c_X8_lacks V _ _ _ _ h3443) ?_
            refine x_if_lt C 3446 3466 dL_law_3446 (by decide) (fun _ => ?_) (fun _ => ?_)
            · refine Y_sub [0, 1, 2, 3, 4, 5, 6, 7, 8] rfl ?_
              exact hJ3466 _ _
            · refine x_aload_n C 3449 0 dL_law_3449 rfl ?_
              refine x_iload C 3450 8 dL_law_3450 rfl ?_
              refine x_iload C 3452 7 dL_law_3452 rfl ?_
              refine Y_bnd2 (fun r3454 s_3454 h3454 => ?_)
              refine x_callLV C 3454 [.int v20_3394, .int r3285] [] rfl tw_879 mv_X8_outcome rfl (Nat.le_of_ble_eq_true rfl) (Nat.le_of_ble_eq_true rfl) (Nat.le_of_ble_eq_true rfl) dL_law_3454 (c_X8_outcome V _ _ _ _ h3454) ?_
              refine x_bipush C 3457 dL_law_3457 kb_m2 ?_
              refine x_icmp_lt C 3459 3466 dL_law_3459 (by decide) (fun _ => ?_) (fun _ => ?_)
              · refine Y_sub [0, 1, 2, 3, 4, 5, 6, 7, 8] rfl ?_
                exact hJ3466 _ _
              · refine Y_sub [0, 1, 2, 3, 4, 5, 6, 7, 8] rfl ?_
                exact hJ3462 _ _
set_option maxRecDepth 100000 in
set_option maxHeartbeats 40000000 in
theorem c_LJ3378 {V : Ct_V} {A : Nat → Nat} {q : Lq} {K : Kt} (C : Fx K (Zl V A q) cL_law RL 7 171) (hNW : ∀ w ∈ NWl, va_Nw w K.2.2.2.2.1) (hN : ∀ i, i < 30 → ∀ K2 : Kt, K = K2 → i < K2.2.2.2.2.2.2.2.2.2.2.1) (R : Lr K (Zl V A q)) {E3293 : ((Int32 × Int32 × Wd) ⊕ (Int32 × Wd)) → Prop} {r3285 : Int32} {t0_3264 : Int32} {v10_3264 : Int32} {v17_3264 : Int32} {v6_3264 : Int32} {v8_3264 : Int32} {v9_3264 : Int32} (hb3293 : ∀ s' : Int32 × Int32 × Wd, E3293 (.inl s') → Go K (Zl V A q) ((fun s : Int32 × Int32 × Wd => s.2.2) s') 3293 ((fun s : Int32 × Int32 × Wd => [(3, .ref (zA (Zl V A q) 0)), (5, .int s.1), (6, .int v6_3264), (8, .int v8_3264), (9, .int v9_3264), (10, .int v10_3264), (17, .int v17_3264), (18, .int t0_3264), (19, .int r3285), (20, .int s.2.1)]) s') []) : ∀ (σ_3378 : Wd) (v20_3378 : Int32) (v21_3378 : Int32) (v22_3378 : Int32), Y K (Zl V A q) (M_L_law_J3378 q σ_3378 v6_3264 v8_3264 v9_3264 v10_3264 v17_3264 t0_3264 r3285 v20_3378 v21_3378 v22_3378) E3293 σ_3378 3378 [(3, .ref (zA (Zl V A q) 0)), (6, .int v6_3264), (8, .int v8_3264), (9, .int v9_3264), (10, .int v10_3264), (17, .int v17_3264), (18, .int t0_3264), (19, .int r3285), (20, .int v20_3378), (21, .int v21_3378), (22, .int v22_3378)] [] := by
  intro σ_3378 v20_3378 v21_3378 v22_3378
  unfold M_L_law_J3378
  refine x_iload C 3378 6 dL_law_3378 rfl ?_
  refine x_iconst C 3380 dL_law_3380 ki_1 ?_
  have hJ3467 : ∀ (σ_3467 : Wd) (v20_3467 : Int32) (t0_3467 : Int32), Y K (Zl V A q) (M_L_law_J3467 q σ_3467 v6_3264 v8_3264 v9_3264 v10_3264 v17_3264 t0_3264 r3285 v20_3467 t0_3467) E3293 σ_3467 3467 [(3, .ref (zA (Zl V A q) 0)), (6, .int v6_3264), (8, .int v8_3264), (9, .int v9_3264), (10, .int v10_3264), (17, .int v17_3264), (18, .int t0_3264), (19, .int r3285), (20, .int v20_3467)] [.int t0_3467] := c_LJ3467 C hNW hN R hb3293
  have hJ3466 : ∀ (σ_3466 : Wd) (v20_3466 : Int32), Y K (Zl V A q) (M_L_law_J3466 q σ_3466 v6_3264 v8_3264 v9_3264 v10_3264 v17_3264 t0_3264 r3285 v20_3466) E3293 σ_3466 3466 [(3, .ref (zA (Zl V A q) 0)), (6, .int v6_3264), (8, .int v8_3264), (9, .int v9_3264), (10, .int v10_3264), (17, .int v17_3264), (18, .int t0_3264), (19, .int r3285), (20, .int v20_3466)] [] := c_LJ3466 C hNW hN R hJ3467
  refine x_icmp_ne C 3381 3466 dL_law_3381 (by decide) (fun _ => ?_) (fun _ => ?_)
  · refine Y_sub [0, 1, 2, 3, 4, 5, 6, 7, 8] rfl ?_
    exact hJ3466 _ _
  · refine x_iload C 3384 9 dL_law_3384 rfl ?_
    have hJ3394 : ∀ (σ_3394 : Wd) (v20_3394 : Int32) (v21_3394 : Int32) (v22_3394 : Int32) (t0_3394 : Int32), Y K (Zl V A q) (M_L_law_J3394 q σ_3394 v6_3264 v8_3264 v9_3264 v10_3264 v17_3264 t0_3264 r3285 v20_3394 v21_3394 v22_3394 t0_3394) E3293 σ_3394 3394 [(3, .ref (zA (Zl V A q) 0)), (6, .int v6_3264), (8, .int v8_3264), (9, .int v9_3264), (10, .int v10_3264), (17, .int v17_3264), (18, .int t0_3264), (19, .int r3285), (20, .int v20_3394), (21, .int v21_3394), (22, .int v22_3394)] [.int t0_3394] := c_LJ3394 C hNW hN R hJ3466 hJ3467
    refine x_if_ne C 3386 3393 dL_law_3386 (by decide) (fun _ => ?_) (fun _ => ?_)
    · refine x_iconst C 3393 dL_law_3393 ki_0 ?_
      exact hJ3394 _ _ _ _ _
    · refine x_iconst C 3389 dL_law_3389 ki_1 ?_
      refine x_goto C 3390 3394 dL_law_3390 (by decide) ?_
      exact hJ3394 _ _ _ _ _
set_option maxRecDepth 100000 in
set_option maxHeartbeats 40000000 in
theorem c_LJ3369 {V : Ct_V} {A : Nat → Nat} {q : Lq} {K : Kt} (C : Fx K (Zl V A q) cL_law RL 7 171) (hNW : ∀ w ∈ NWl, va_Nw w K.2.2.2.2.1) (hN : ∀ i, i < 30 → ∀ K2 : Kt, K = K2 → i < K2.2.2.2.2.2.2.2.2.2.2.1) (R : Lr K (Zl V A q)) {E3324 : ((Int32 × Int32) ⊕ (Int32)) → Prop} {r3285 : Int32} {s_3293 : Wd} {t0_3264 : Int32} {v10_3264 : Int32} {v17_3264 : Int32} {v20_3293 : Int32} {v21_3316 : Int32} {v6_3264 : Int32} {v8_3264 : Int32} {v9_3264 : Int32} (hb3324 : ∀ s' : Int32 × Int32, E3324 (.inl s') → Go K (Zl V A q) ((fun s : Int32 × Int32 => s_3293) s') 3324 ((fun s : Int32 × Int32 => [(3, .ref (zA (Zl V A q) 0)), (6, .int v6_3264), (8, .int v8_3264), (9, .int v9_3264), (10, .int v10_3264), (17, .int v17_3264), (18, .int t0_3264), (19, .int r3285), (20, .int v20_3293), (21, .int v21_3316), (22, .int s.1), (23, .int s.2)]) s') []) : ∀ (v23_3369 : Int32), Y K (Zl V A q) (M_L_law_J3369 q s_3293 v6_3264 v8_3264 v9_3264 v10_3264 v17_3264 t0_3264 r3285 v20_3293 v21_3316 v23_3369) E3324 s_3293 3369 [(3, .ref (zA (Zl V A q) 0)), (6, .int v6_3264), (8, .int v8_3264), (9, .int v9_3264), (10, .int v10_3264), (17, .int v17_3264), (18, .int t0_3264), (19, .int r3285), (20, .int v20_3293), (21, .int v21_3316), (23, .int v23_3369)] [] := by
  intro v23_3369
  unfold M_L_law_J3369
  refine x_iconst C 3369 dL_law_3369 ki_1 ?_
  refine x_istore C 3370 (L' := [(22, .int (1 : Int32)), (3, .ref (zA (Zl V A q) 0)), (6, .int v6_3264), (8, .int v8_3264), (9, .int v9_3264), (10, .int v10_3264), (17, .int v17_3264), (18, .int t0_3264), (19, .int r3285), (20, .int v20_3293), (21, .int v21_3316), (23, .int v23_3369)]) dL_law_3370 (hN _ (Nat.le_of_ble_eq_true rfl)) rfl ?_
  refine x_iinct C 3372 11 (1 : Int32) (fun v23_3372 => [(23, .int v23_3372), (22, .int (1 : Int32)), (3, .ref (zA (Zl V A q) 0)), (6, .int v6_3264), (8, .int v8_3264), (9, .int v9_3264), (10, .int v10_3264), (17, .int v17_3264), (18, .int t0_3264), (19, .int r3285), (20, .int v20_3293), (21, .int v21_3316)]) dL_law_3372 rfl ki_1 (hN _ (Nat.le_of_ble_eq_true rfl)) (fun _ => rfl) (fun v23_3372 => ?_)
  refine x_goto C 3375 3324 dL_law_3375 (by decide) ?_
  refine Y_sub [2, 3, 4, 5, 6, 7, 8, 9, 10, 11, 1, 0] rfl ?_
  exact x_back ((1 : Int32), v23_3372) (hb3324 ((1 : Int32), v23_3372))
set_option maxRecDepth 100000 in
set_option maxHeartbeats 40000000 in
theorem c_LL3324 {V : Ct_V} {A : Nat → Nat} {q : Lq} {K : Kt} (C : Fx K (Zl V A q) cL_law RL 7 171) (hNW : ∀ w ∈ NWl, va_Nw w K.2.2.2.2.1) (hN : ∀ i, i < 30 → ∀ K2 : Kt, K = K2 → i < K2.2.2.2.2.2.2.2.2.2.2.1) (R : Lr K (Zl V A q)) {E3293 : ((Int32 × Int32 × Wd) ⊕ (Int32 × Wd)) → Prop} {E3324 : ((Int32 × Int32) ⊕ (Int32)) → Prop} {r3285 : Int32} {s_3293 : Wd} {t0_3264 : Int32} {v10_3264 : Int32} {v17_3264 : Int32} {v20_3293 : Int32} {v21_3316 : Int32} {v6_3264 : Int32} {v8_3264 : Int32} {v9_3264 : Int32} (hx3324 : ∀ x, E3324 (.inr x) → ∃ q0, (un1 fun x22_3324 => (M_L_law_J3378 q s_3293 v6_3264 v8_3264 v9_3264 v10_3264 v17_3264 t0_3264 r3285 v20_3293 v21_3316 x22_3324)) x = some q0 ∧ E3293 q0) (hJ3378 : ∀ (σ_3378 : Wd) (v20_3378 : Int32) (v21_3378 : Int32) (v22_3378 : Int32), Y K (Zl V A q) (M_L_law_J3378 q σ_3378 v6_3264 v8_3264 v9_3264 v10_3264 v17_3264 t0_3264 r3285 v20_3378 v21_3378 v22_3378) E3293 σ_3378 3378 [(3, .ref (zA (Zl V A q) 0)), (6, .int v6_3264), (8, .int v8_3264), (9, .int v9_3264), (10, .int v10_3264), (17, .int v17_3264), (18, .int t0_3264), (19, .int r3285), (20, .int v20_3378), (21, .int v21_3378), (22, .int v22_3378)] []) (hb3324 : ∀ s' : Int32 × Int32, E3324 (.inl s') → Go K (Zl V A q) ((fun s : Int32 × Int32 => s_3293) s') 3324 ((fun s : Int32 × Int32 => [(3, .ref (zA (Zl V A q) 0)), (6, .int v6_3264), (8, .int v8_3264), (9, .int v9_3264), (10, .int v10_3264), (17, .int v17_3264), (18, .int t0_3264), (19, .int r3285), (20, .int v20_3293), (21, .int v21_3316), (22, .int s.1), (23, .int s.2)]) s') []) : ∀ (v22_3324 : Int32) (v23_3324 : Int32), Y K (Zl V A q) (M_L_law_L3324 q s_3293 v6_3264 v8_3264 v9_3264 v10_3264 v17_3264 t0_3264 r3285 v20_3293 v21_3316 v22_3324 v23_3324) E3324 s_3293 3324 [(3, .ref (zA (Zl V A q) 0)), (6, .int v6_3264), (8, .int v8_3264), (9, .int v9_3264), (10, .int v10_3264), (17, .int v17_3264), (18, .int t0_3264), (19, .int r3285), (20, .int v20_3293), (21, .int v21_3316), (22, .int v22_3324), (23, .int v23_3324)] [] := by
  intro v22_3324 v23_3324
  unfold M_L_law_L3324
  refine x_iload C 3324 11 dL_law_3324 rfl ?_
  refine x_iload C 3326 1 dL_law_3326 rfl ?_
  refine x_icmp_ge C 3328 3378 dL_law_3328 (by decide) (fun _ => ?_) (fun _ => ?_)
  · refine x_ex1 hx3324 v22_3324 ?_
    refine Y_sub [0, 1, 2, 3, 4, 5, 6, 7, 8, 9, 10] rfl ?_
    exact hJ3378 _ _ _ _
  · refine x_aload_n C 3331 0 dL_law_3331 rfl ?_
    refine x_iload C 3332 8 dL_law_3332 rfl ?_
    refine x_iload C 3334 11 dL_law_3334 rfl ?_
    refine Y_bnd1 (fun r3336 h3336 => ?_)
    refine x_callLV C 3336 [.int v20_3293, .int v23_3324] [] rfl tw_945 mv_X8_vector rfl (Nat.le_of_ble_eq_true rfl) (Nat.le_of_ble_eq_true rfl) (Nat.le_of_ble_eq_true rfl) dL_law_3336 (c_X8_vector V _ _ _ _ h3336) ?_
    refine x_aload_n C 3339 0 dL_law_3339 rfl ?_
    refine x_iconst C 3340 dL_law_3340 ki_1 ?_
    refine x_iload C 3341 11 dL_law_3341 rfl ?_
    refine x_iconst C 3343 dL_law_3343 ki_1 ?_
    refine Y_bnd1 (fun r3344 h3344 => ?_)
    refine x_callLV C 3344 [.int (1 : Int32), .int v23_3324, .int (1 : Int32)] [.int r3336] rfl tw_954 mv_X8_of rfl (Nat.le_of_ble_eq_true rfl) (Nat.le_of_ble_eq_true rfl) (Nat.le_of_ble_eq_true rfl) dL_law_3344 (c_X8_of V _ _ _ _ _ h3344) ?_
    have hJ3369 : ∀ (v23_3369 : Int32), Y K (Zl V A q) (M_L_law_J3369 q s_3293 v6_3264 v8_3264 v9_3264 v10_3264 v17_3264 t0_3264 r3285 v20_3293 v21_3316 v23_3369) E3324 s_3293 3369 [(3, .ref (zA (Zl V A q) 0)), (6, .int v6_3264), (8, .int v8_3264), (9, .int v9_3264), (10, .int v10_3264), (17, .int v17_3264), (18, .int t0_3264), (19, .int r3285), (20, .int v20_3293), (21, .int v21_3316), (23, .int v23_3369)] [] := c_LJ3369 C hNW hN R hb3324
    refine x_icmp_lt C 3347 3369 dL_law_3347 (by decide) (fun _ => ?_) (fun _ => ?_)
    · refine Y_sub [0, 1, 2, 3, 4, 5, 6, 7, 8, 9, 11] rfl ?_
      exact hJ3369 _
    · refine x_aload_n C 3350 0 dL_law_3350 rfl ?_
      refine x_iload C 3351 8 dL_law_3351 rfl ?_
      refine x_iload C 3353 11 dL_law_3353 rfl ?_
      refine Y_bnd1 (fun r3355 h3355 => ?_)
      refine x_callLV C 3355 [.int v20_3293, .int v23_3324] [] rfl tw_945 mv_X8_vector rfl (Nat.le_of_ble_eq_true rfl) (Nat.le_of_ble_eq_true rfl) (Nat.le_of_ble_eq_true rfl) dL_law_3355 (c_X8_vector V _ _ _ _ h3355) ?_
      refine x_aload_n C 3358 0 dL_law_3358 rfl ?_
      refine x_iconst C 3359 dL_law_3359 ki_1 ?_
      refine x_iload C 3360 11 dL_law_3360 rfl ?_
      refine x_iconst C 3362 dL_law_3362 ki_0 ?_
      refine Y_bnd1 (fun r3363 h3363 => ?_)
      refine x_callLV C 3363 [.int (1 : Int32), .int v23_3324, .int (0 : Int32)] [.int r3355] rfl tw_954 mv_X8_of rfl (Nat.le_of_ble_eq_true rfl) (Nat.le_of_ble_eq_true rfl) (Nat.le_of_ble_eq_true rfl) dL_law_3363 (c_X8_of V _ _ _ _ _ h3363) ?_
      refine x_icmp_ge C 3366 3372 dL_law_3366 (by decide) (fun _ => ?_) (fun _ => ?_)
      · refine x_iinct C 3372 11 (1 : Int32) (fun v23_3372 => [(23, .int v23_3372), (3, .ref (zA (Zl V A q) 0)), (6, .int v6_3264), (8, .int v8_3264), (9, .int v9_3264), (10, .int v10_3264), (17, .int v17_3264), (18, .int t0_3264), (19, .int r3285), (20, .int v20_3293), (21, .int v21_3316), (22, .int v22_3324)]) dL_law_3372 rfl ki_1 (hN _ (Nat.le_of_ble_eq_true rfl)) (fun _ => rfl) (fun v23_3372 => ?_)
        refine x_goto C 3375 3324 dL_law_3375 (by decide) ?_
        refine Y_sub [1, 2, 3, 4, 5, 6, 7, 8, 9, 10, 11, 0] rfl ?_
        exact x_back (v22_3324, v23_3372) (hb3324 (v22_3324, v23_3372))
      · refine Y_sub [0, 1, 2, 3, 4, 5, 6, 7, 8, 9, 11] rfl ?_
        exact hJ3369 _
set_option maxRecDepth 100000 in
set_option maxHeartbeats 40000000 in
theorem c_LL3293 {V : Ct_V} {A : Nat → Nat} {q : Lq} {K : Kt} (C : Fx K (Zl V A q) cL_law RL 7 171) (hNW : ∀ w ∈ NWl, va_Nw w K.2.2.2.2.1) (hN : ∀ i, i < 30 → ∀ K2 : Kt, K = K2 → i < K2.2.2.2.2.2.2.2.2.2.2.1) (R : Lr K (Zl V A q)) {E3293 : ((Int32 × Int32 × Wd) ⊕ (Int32 × Wd)) → Prop} {r3285 : Int32} {t0_3264 : Int32} {v10_3264 : Int32} {v17_3264 : Int32} {v6_3264 : Int32} {v8_3264 : Int32} {v9_3264 : Int32} (hx3293 : ∀ x, E3293 (.inr x) → ∃ q0, (un2 fun x5_3293 sx_3293 => (M_L_law_J3475 q sx_3293 x5_3293 v8_3264 v9_3264 v10_3264)) x = some q0 ∧ (fun q : Int32 × Wd => q.1 = 1) q0) (hJ3475 : ∀ (σ_3475 : Wd) (v5_3475 : Int32) (v8_3475 : Int32) (v9_3475 : Int32) (v10_3475 : Int32), Y K (Zl V A q) (M_L_law_J3475 q σ_3475 v5_3475 v8_3475 v9_3475 v10_3475) (fun q : Int32 × Wd => q.1 = 1) σ_3475 3475 [(3, .ref (zA (Zl V A q) 0)), (5, .int v5_3475), (8, .int v8_3475), (9, .int v9_3475), (10, .int v10_3475)] []) (hb3293 : ∀ s' : Int32 × Int32 × Wd, E3293 (.inl s') → Go K (Zl V A q) ((fun s : Int32 × Int32 × Wd => s.2.2) s') 3293 ((fun s : Int32 × Int32 × Wd => [(3, .ref (zA (Zl V A q) 0)), (5, .int s.1), (6, .int v6_3264), (8, .int v8_3264), (9, .int v9_3264), (10, .int v10_3264), (17, .int v17_3264), (18, .int t0_3264), (19, .int r3285), (20, .int s.2.1)]) s') []) : ∀ (v5_3293 : Int32) (v20_3293 : Int32) (s_3293 : Wd), Y K (Zl V A q) (M_L_law_L3293 q v6_3264 v8_3264 v9_3264 v10_3264 v17_3264 t0_3264 r3285 v5_3293 v20_3293 s_3293) E3293 s_3293 3293 [(3, .ref (zA (Zl V A q) 0)), (5, .int v5_3293), (6, .int v6_3264), (8, .int v8_3264), (9, .int v9_3264), (10, .int v10_3264), (17, .int v17_3264), (18, .int t0_3264), (19, .int r3285), (20, .int v20_3293)] [] := by
  intro v5_3293 v20_3293 s_3293
  unfold M_L_law_L3293
  refine x_iload C 3293 9 dL_law_3293 rfl ?_
  refine x_iload C 3295 2 dL_law_3295 rfl ?_
  refine x_icmp_ge C 3297 3475 dL_law_3297 (by decide) (fun _ => ?_) (fun _ => ?_)
  · refine x_ex2 hx3293 v5_3293 s_3293 ?_
    refine Y_sub [0, 1, 3, 4, 5] rfl ?_
    exact hJ3475 _ _ _ _ _
  · refine x_iload C 3300 1 dL_law_3300 rfl ?_
    refine x_if_eq C 3302 3475 dL_law_3302 (by decide) (fun _ => ?_) (fun _ => ?_)
    · refine x_ex2 hx3293 v5_3293 s_3293 ?_
      refine Y_sub [0, 1, 3, 4, 5] rfl ?_
      exact hJ3475 _ _ _ _ _
    · refine x_aload_n C 3305 0 dL_law_3305 rfl ?_
      refine x_iconst C 3306 dL_law_3306 ki_1 ?_
      refine x_iconst C 3307 dL_law_3307 ki_0 ?_
      refine Y_bnd1 (fun r3308 h3308 => ?_)
      refine x_callLV C 3308 [.int (1 : Int32), .int (0 : Int32)] [] rfl tw_1034 mv_X8_may rfl (Nat.le_of_ble_eq_true rfl) (Nat.le_of_ble_eq_true rfl) (Nat.le_of_ble_eq_true rfl) dL_law_3308 (c_X8_may V _ _ _ _ h3308) ?_
      refine x_iload C 3311 9 dL_law_3311 rfl ?_
      refine x_ishr C 3313 dL_law_3313 ?_
      refine x_iconst C 3314 dL_law_3314 ki_1 ?_
      refine x_iand C 3315 dL_law_3315 ?_
      refine x_istoret C 3316 (fun v21_3316 => [(21, .int v21_3316), (3, .ref (zA (Zl V A q) 0)), (5, .int v5_3293), (6, .int v6_3264), (8, .int v8_3264), (9, .int v9_3264), (10, .int v10_3264), (17, .int v17_3264), (18, .int t0_3264), (19, .int r3285), (20, .int v20_3293)]) dL_law_3316 (hN _ (Nat.le_of_ble_eq_true rfl)) (fun _ => rfl) (fun v21_3316 => ?_)
      refine x_iconst C 3318 dL_law_3318 ki_0 ?_
      refine x_istore C 3319 (L' := [(22, .int (0 : Int32)), (21, .int v21_3316), (3, .ref (zA (Zl V A q) 0)), (5, .int v5_3293), (6, .int v6_3264), (8, .int v8_3264), (9, .int v9_3264), (10, .int v10_3264), (17, .int v17_3264), (18, .int t0_3264), (19, .int r3285), (20, .int v20_3293)]) dL_law_3319 (hN _ (Nat.le_of_ble_eq_true rfl)) rfl ?_
      refine x_iconst C 3321 dL_law_3321 ki_0 ?_
      refine x_istore C 3322 (L' := [(23, .int (0 : Int32)), (22, .int (0 : Int32)), (21, .int v21_3316), (3, .ref (zA (Zl V A q) 0)), (5, .int v5_3293), (6, .int v6_3264), (8, .int v8_3264), (9, .int v9_3264), (10, .int v10_3264), (17, .int v17_3264), (18, .int t0_3264), (19, .int r3285), (20, .int v20_3293)]) dL_law_3322 (hN _ (Nat.le_of_ble_eq_true rfl)) rfl ?_
      have hJ3378 : ∀ (σ_3378 : Wd) (v20_3378 : Int32) (v21_3378 : Int32) (v22_3378 : Int32), Y K (Zl V A q) (M_L_law_J3378 q σ_3378 v6_3264 v8_3264 v9_3264 v10_3264 v17_3264 t0_3264 r3285 v20_3378 v21_3378 v22_3378) E3293 σ_3378 3378 [(3, .ref (zA (Zl V A q) 0)), (6, .int v6_3264), (8, .int v8_3264), (9, .int v9_3264), (10, .int v10_3264), (17, .int v17_3264), (18, .int t0_3264), (19, .int r3285), (20, .int v20_3378), (21, .int v21_3378), (22, .int v22_3378)] [] := c_LJ3378 C hNW hN R hb3293
      refine Y_sub [3, 5, 6, 7, 8, 9, 10, 11, 12, 2, 1, 0] rfl ?_
      refine x_loop 3324 (fun s : Int32 × Int32 => s_3293) (fun s : Int32 × Int32 => [(3, .ref (zA (Zl V A q) 0)), (6, .int v6_3264), (8, .int v8_3264), (9, .int v9_3264), (10, .int v10_3264), (17, .int v17_3264), (18, .int t0_3264), (19, .int r3285), (20, .int v20_3293), (21, .int v21_3316), (22, .int s.1), (23, .int s.2)]) (fun E3324 hb3324 hx3324 s => ?_) FU ((0 : Int32), (0 : Int32))
      obtain ⟨v22_3324, v23_3324⟩ := s
      exact c_LL3324 C hNW hN R hx3324 hJ3378 hb3324 v22_3324 v23_3324
set_option maxRecDepth 100000 in
set_option maxHeartbeats 40000000 in
theorem c_LJ3264 {V : Ct_V} {A : Nat → Nat} {q : Lq} {K : Kt} (C : Fx K (Zl V A q) cL_law RL 7 171) (hNW : ∀ w ∈ NWl, va_Nw w K.2.2.2.2.1) (hN : ∀ i, i < 30 → ∀ K2 : Kt, K = K2 → i < K2.2.2.2.2.2.2.2.2.2.2.1) (R : Lr K (Zl V A q))  (hJ3495 : ∀ (σ_3495 : Wd) (v5_3495 : Int32) (v8_3495 : Int32) (v9_3495 : Int32) (v10_3495 : Int32), Y K (Zl V A q) (M_L_law_J3495 q σ_3495 v5_3495 v8_3495 v9_3495 v10_3495) (fun q : Int32 × Wd => q.1 = 1) σ_3495 3495 [(3, .ref (zA (Zl V A q) 0)), (5, .int v5_3495), (8, .int v8_3495), (9, .int v9_3495), (10, .int v10_3495)] []) : ∀ (σ_3264 : Wd) (v5_3264 : Int32) (v6_3264 : Int32) (v8_3264 : Int32) (v9_3264 : Int32) (v10_3264 : Int32) (v17_3264 : Int32) (t0_3264 : Int32), Y K (Zl V A q) (M_L_law_J3264 q σ_3264 v5_3264 v6_3264 v8_3264 v9_3264 v10_3264 v17_3264 t0_3264) (fun q : Int32 × Wd => q.1 = 1) σ_3264 3264 [(1, .ref (A 0)), (3, .ref (zA (Zl V A q) 0)), (4, .ref (A 1)), (5, .int v5_3264), (6, .int v6_3264), (8, .int v8_3264), (9, .int v9_3264), (10, .int v10_3264), (17, .int v17_3264)] [.int t0_3264] := by
  intro σ_3264 v5_3264 v6_3264 v8_3264 v9_3264 v10_3264 v17_3264 t0_3264
  unfold M_L_law_J3264
  refine x_istore C 3264 (L' := [(18, .int t0_3264), (1, .ref (A 0)), (3, .ref (zA (Zl V A q) 0)), (4, .ref (A 1)), (5, .int v5_3264), (6, .int v6_3264), (8, .int v8_3264), (9, .int v9_3264), (10, .int v10_3264), (17, .int v17_3264)]) dL_law_3264 (hN _ (Nat.le_of_ble_eq_true rfl)) rfl ?_
  refine x_aload_n C 3266 2 dL_law_3266 rfl ?_
  refine x_iconst C 3267 dL_law_3267 ki_1 ?_
  refine x_iload C 3268 9 dL_law_3268 rfl ?_
  refine x_aload_n C 3270 1 dL_law_3270 rfl ?_
  refine x_bipush C 3271 dL_law_3271 kb_31 ?_
  refine x_script C 3273 dL_law_3273 (fun _ => ?_)
  refine x_sipush C 3274 dL_law_3274 ks_255 ?_
  refine x_iand C 3277 dL_law_3277 ?_
  refine x_aload C 3278 3 dL_law_3278 rfl ?_
  refine x_net (v := .int (lZ q 2)) C hNW 3280 2 (Nat.le_of_ble_eq_true rfl) rfl rfl (List.mem_of_getElem? (i := 9) rfl) dL_law_3280 ?_
  refine Y_chk (fun q3283 => ?_)
  refine x_irem C 3283 dL_law_3283 q3283 ?_
  refine x_iconst C 3284 dL_law_3284 ki_3 ?_
  refine Y_bnd2 (fun r3285 s_3285 h3285 => ?_)
  refine x_callLV C 3285 [.int (1 : Int32), .int v17_3264, .int (((lX q (ix (31 : Int32))) &&& (255 : Int32)) - ((lX q (ix (31 : Int32))) &&& (255 : Int32)) / (lZ q 2) * (lZ q 2)), .int (3 : Int32)] [] rfl tw_630 mv_X8_make rfl (Nat.le_of_ble_eq_true rfl) (Nat.le_of_ble_eq_true rfl) (Nat.le_of_ble_eq_true rfl) dL_law_3285 (c_X8_make V _ _ _ _ _ _ h3285) ?_
  refine x_istore C 3288 (L' := [(19, .int r3285), (18, .int t0_3264), (1, .ref (A 0)), (3, .ref (zA (Zl V A q) 0)), (4, .ref (A 1)), (5, .int v5_3264), (6, .int v6_3264), (8, .int v8_3264), (9, .int v9_3264), (10, .int v10_3264), (17, .int v17_3264)]) dL_law_3288 (hN _ (Nat.le_of_ble_eq_true rfl)) rfl ?_
  refine x_iconst C 3290 dL_law_3290 ki_0 ?_
  refine x_istore C 3291 (L' := [(20, .int (0 : Int32)), (19, .int r3285), (18, .int t0_3264), (1, .ref (A 0)), (3, .ref (zA (Zl V A q) 0)), (4, .ref (A 1)), (5, .int v5_3264), (6, .int v6_3264), (8, .int v8_3264), (9, .int v9_3264), (10, .int v10_3264), (17, .int v17_3264)]) dL_law_3291 (hN _ (Nat.le_of_ble_eq_true rfl)) rfl ?_
  have hJ3475 : ∀ (σ_3475 : Wd) (v5_3475 : Int32) (v8_3475 : Int32) (v9_3475 : Int32) (v10_3475 : Int32), Y K (Zl V A q) (M_L_law_J3475 q σ_3475 v5_3475 v8_3475 v9_3475 v10_3475) (fun q : Int32 × Wd => q.1 = 1) σ_3475 3475 [(3, .ref (zA (Zl V A q) 0)), (5, .int v5_3475), (8, .int v8_3475), (9, .int v9_3475), (10, .int v10_3475)] [] := c_LJ3475 C hNW hN R hJ3495
  refine Y_sub [4, 6, 7, 8, 9, 10, 11, 2, 1, 0] rfl ?_
  refine x_loop 3293 (fun s : Int32 × Int32 × Wd => s.2.2) (fun s : Int32 × Int32 × Wd => [(3, .ref (zA (Zl V A q) 0)), (5, .int s.1), (6, .int v6_3264), (8, .int v8_3264), (9, .int v9_3264), (10, .int v10_3264), (17, .int v17_3264), (18, .int t0_3264), (19, .int r3285), (20, .int s.2.1)]) (fun E3293 hb3293 hx3293 s => ?_) FU (v5_3264, (0 : Int32), s_3285)
  obtain ⟨v5_3293, v20_3293, s_3293⟩ := s
  exact c_LL3293 C hNW hN R hx3293 hJ3475 hb3293 v5_3293 v20_3293 s_3293
set_option maxRecDepth 100000 in
set_option maxHeartbeats 40000000 in
theorem c_LJ3259 {V : Ct_V} {A : Nat → Nat} {q : Lq} {K : Kt} (C : Fx K (Zl V A q) cL_law RL 7 171) (hNW : ∀ w ∈ NWl, va_Nw w K.2.2.2.2.1) (hN : ∀ i, i < 30 → ∀ K2 : Kt, K = K2 → i < K2.2.2.2.2.2.2.2.2.2.2.1) (R : Lr K (Zl V A q))  (hJ3264 : ∀ (σ_3264 : Wd) (v5_3264 : Int32) (v6_3264 : Int32) (v8_3264 : Int32) (v9_3264 : Int32) (v10_3264 : Int32) (v17_3264 : Int32) (t0_3264 : Int32), Y K (Zl V A q) (M_L_law_J3264 q σ_3264 v5_3264 v6_3264 v8_3264 v9_3264 v10_3264 v17_3264 t0_3264) (fun q : Int32 × Wd => q.1 = 1) σ_3264 3264 [(1, .ref (A 0)), (3, .ref (zA (Zl V A q) 0)), (4, .ref (A 1)), (5, .int v5_3264), (6, .int v6_3264), (8, .int v8_3264), (9, .int v9_3264), (10, .int v10_3264), (17, .int v17_3264)] [.int t0_3264]) : ∀ (σ_3259 : Wd) (v5_3259 : Int32) (v6_3259 : Int32) (v8_3259 : Int32) (v9_3259 : Int32) (v10_3259 : Int32) (v17_3259 : Int32), Y K (Zl V A q) (M_L_law_J3259 q σ_3259 v5_3259 v6_3259 v8_3259 v9_3259 v10_3259 v17_3259) (fun q : Int32 × Wd => q.1 = 1) σ_3259 3259 [(1, .ref (A 0)), (3, .ref (zA (Zl V A q) 0)), (4, .ref (A 1)), (5, .int v5_3259), (6, .int v6_3259), (8, .int v8_3259), (9, .int v9_3259), (10, .int v10_3259), (17, .int v17_3259)] [] := by
  intro σ_3259 v5_3259 v6_3259 v8_3259 v9_3259 v10_3259 v17_3259
  unfold M_L_law_J3259
  refine x_iconst C 3259 dL_law_3259 ki_1 ?_
  refine x_goto C 3260 3264 dL_law_3260 (by decide) ?_
  exact hJ3264 _ _ _ _ _ _ _ _
set_option maxRecDepth 100000 in
set_option maxHeartbeats 40000000 in
theorem c_LJ3215 {V : Ct_V} {A : Nat → Nat} {q : Lq} {K : Kt} (C : Fx K (Zl V A q) cL_law RL 7 171) (hNW : ∀ w ∈ NWl, va_Nw w K.2.2.2.2.1) (hN : ∀ i, i < 30 → ∀ K2 : Kt, K = K2 → i < K2.2.2.2.2.2.2.2.2.2.2.1) (R : Lr K (Zl V A q))   : ∀ (σ_3215 : Wd) (v6_3215 : Int32) (v8_3215 : Int32) (v9_3215 : Int32) (v10_3215 : Int32) (t0_3215 : Int32), Y K (Zl V A q) (M_L_law_J3215 q σ_3215 v6_3215 v8_3215 v9_3215 v10_3215 t0_3215) (fun q : Int32 × Wd => q.1 = 1) σ_3215 3215 [(1, .ref (A 0)), (3, .ref (zA (Zl V A q) 0)), (4, .ref (A 1)), (6, .int v6_3215), (8, .int v8_3215), (9, .int v9_3215), (10, .int v10_3215)] [.int t0_3215] := by
  intro σ_3215 v6_3215 v8_3215 v9_3215 v10_3215 t0_3215
  unfold M_L_law_J3215
  refine x_istore C 3215 (L' := [(5, .int t0_3215), (1, .ref (A 0)), (3, .ref (zA (Zl V A q) 0)), (4, .ref (A 1)), (6, .int v6_3215), (8, .int v8_3215), (9, .int v9_3215), (10, .int v10_3215)]) dL_law_3215 (hN _ (Nat.le_of_ble_eq_true rfl)) rfl ?_
  refine x_aload C 3217 3 dL_law_3217 rfl ?_
  refine x_net (v := .int (lZ q 2)) C hNW 3219 2 (Nat.le_of_ble_eq_true rfl) rfl rfl (List.mem_of_getElem? (i := 9) rfl) dL_law_3219 ?_
  have hJ3495 : ∀ (σ_3495 : Wd) (v5_3495 : Int32) (v8_3495 : Int32) (v9_3495 : Int32) (v10_3495 : Int32), Y K (Zl V A q) (M_L_law_J3495 q σ_3495 v5_3495 v8_3495 v9_3495 v10_3495) (fun q : Int32 × Wd => q.1 = 1) σ_3495 3495 [(3, .ref (zA (Zl V A q) 0)), (5, .int v5_3495), (8, .int v8_3495), (9, .int v9_3495), (10, .int v10_3495)] [] := c_LJ3495 C hNW hN R 
  refine x_if_le C 3222 3495 dL_law_3222 (by decide) (fun _ => ?_) (fun _ => ?_)
  · refine Y_sub [2, 0, 5, 6, 7] rfl ?_
    exact hJ3495 _ _ _ _ _
  · refine x_aload_n C 3225 1 dL_law_3225 rfl ?_
    refine x_bipush C 3226 dL_law_3226 kb_30 ?_
    refine x_script C 3228 dL_law_3228 (fun _ => ?_)
    refine x_sipush C 3229 dL_law_3229 ks_255 ?_
    refine x_iand C 3232 dL_law_3232 ?_
    refine x_iload C 3233 4 dL_law_3233 rfl ?_
    refine Y_chk (fun q3235 => ?_)
    refine x_irem C 3235 dL_law_3235 q3235 ?_
    refine x_istoret C 3236 (fun v17_3236 => [(17, .int v17_3236), (5, .int t0_3215), (1, .ref (A 0)), (3, .ref (zA (Zl V A q) 0)), (4, .ref (A 1)), (6, .int v6_3215), (8, .int v8_3215), (9, .int v9_3215), (10, .int v10_3215)]) dL_law_3236 (hN _ (Nat.le_of_ble_eq_true rfl)) (fun _ => rfl) (fun v17_3236 => ?_)
    refine x_aload_n C 3238 3 dL_law_3238 rfl ?_
    refine x_iconst C 3239 dL_law_3239 ki_1 ?_
    refine x_iconst C 3240 dL_law_3240 ki_0 ?_
    refine Y_bnd1 (fun r3241 h3241 => ?_)
    refine x_callLV C 3241 [.int (1 : Int32), .int (0 : Int32)] [] rfl tw_950 mv_X8_session rfl (Nat.le_of_ble_eq_true rfl) (Nat.le_of_ble_eq_true rfl) (Nat.le_of_ble_eq_true rfl) dL_law_3241 (c_X8_session V _ _ _ _ h3241) ?_
    refine x_bipush C 3244 dL_law_3244 kb_15 ?_
    have hJ3264 : ∀ (σ_3264 : Wd) (v5_3264 : Int32) (v6_3264 : Int32) (v8_3264 : Int32) (v9_3264 : Int32) (v10_3264 : Int32) (v17_3264 : Int32) (t0_3264 : Int32), Y K (Zl V A q) (M_L_law_J3264 q σ_3264 v5_3264 v6_3264 v8_3264 v9_3264 v10_3264 v17_3264 t0_3264) (fun q : Int32 × Wd => q.1 = 1) σ_3264 3264 [(1, .ref (A 0)), (3, .ref (zA (Zl V A q) 0)), (4, .ref (A 1)), (5, .int v5_3264), (6, .int v6_3264), (8, .int v8_3264), (9, .int v9_3264), (10, .int v10_3264), (17, .int v17_3264)] [.int t0_3264] := c_LJ3264 C hNW hN R hJ3495
    have hJ3259 : ∀ (σ_3259 : Wd) (v5_3259 : Int32) (v6_3259 : Int32) (v8_3259 : Int32) (v9_3259 : Int32) (v10_3259 : Int32) (v17_3259 : Int32), Y K (Zl V A q) (M_L_law_J3259 q σ_3259 v5_3259 v6_3259 v8_3259 v9_3259 v10_3259 v17_3259) (fun q : Int32 × Wd => q.1 = 1) σ_3259 3259 [(1, .ref (A 0)), (3, .ref (zA (Zl V A q) 0)), (4, .ref (A 1)), (5, .int v5_3259), (6, .int v6_3259), (8, .int v8_3259), (9, .int v9_3259), (10, .int v10_3259), (17, .int v17_3259)] [] := c_LJ3259 C hNW hN R hJ3264
    refine x_icmp_eq C 3246 3259 dL_law_3246 (by decide) (fun _ => ?_) (fun _ => ?_)
    · refine Y_sub [2, 3, 4, 1, 5, 6, 7, 8, 0] rfl ?_
      exact hJ3259 _ _ _ _ _ _ _
    · refine x_aload_n C 3249 3 dL_law_3249 rfl ?_
      refine x_iconst C 3250 dL_law_3250 ki_1 ?_
      refine x_bipush C 3251 dL_law_3251 kb_15 ?_
      refine Y_bnd2 (fun r3253 s_3253 h3253 => ?_)
      refine x_callLV C 3253 [.int (1 : Int32), .int (15 : Int32)] [] rfl tw_796 mv_X8_promise rfl (Nat.le_of_ble_eq_true rfl) (Nat.le_of_ble_eq_true rfl) (Nat.le_of_ble_eq_true rfl) dL_law_3253 (c_X8_promise V _ _ _ _ h3253) ?_
      refine x_if_eq C 3256 3263 dL_law_3256 (by decide) (fun _ => ?_) (fun _ => ?_)
      · refine x_iconst C 3263 dL_law_3263 ki_0 ?_
        refine Y_sub [2, 3, 4, 1, 5, 6, 7, 8, 0] rfl ?_
        exact hJ3264 _ _ _ _ _ _ _ _
      · refine Y_sub [2, 3, 4, 1, 5, 6, 7, 8, 0] rfl ?_
        exact hJ3259 _ _ _ _ _ _ _
set_option maxRecDepth 100000 in
set_option maxHeartbeats 40000000 in
theorem c_LJ3214 {V : Ct_V} {A : Nat → Nat} {q : Lq} {K : Kt} (C : Fx K (Zl V A q) cL_law RL 7 171) (hNW : ∀ w ∈ NWl, va_Nw w K.2.2.2.2.1) (hN : ∀ i, i < 30 → ∀ K2 : Kt, K = K2 → i < K2.2.2.2.2.2.2.2.2.2.2.1) (R : Lr K (Zl V A q))  (hJ3215 : ∀ (σ_3215 : Wd) (v6_3215 : Int32) (v8_3215 : Int32) (v9_3215 : Int32) (v10_3215 : Int32) (t0_3215 : Int32), Y K (Zl V A q) (M_L_law_J3215 q σ_3215 v6_3215 v8_3215 v9_3215 v10_3215 t0_3215) (fun q : Int32 × Wd => q.1 = 1) σ_3215 3215 [(1, .ref (A 0)), (3, .ref (zA (Zl V A q) 0)), (4, .ref (A 1)), (6, .int v6_3215), (8, .int v8_3215), (9, .int v9_3215), (10, .int v10_3215)] [.int t0_3215]) : ∀ (σ_3214 : Wd) (v6_3214 : Int32) (v8_3214 : Int32) (v9_3214 : Int32) (v10_3214 : Int32), Y K (Zl V A q) (M_L_law_J3214 q σ_3214 v6_3214 v8_3214 v9_3214 v10_3214) (fun q : Int32 × Wd => q.1 = 1) σ_3214 3214 [(1, .ref (A 0)), (3, .ref (zA (Zl V A q) 0)), (4, .ref (A 1)), (6, .int v6_3214), (8, .int v8_3214), (9, .int v9_3214), (10, .int v10_3214)] [] := by
  intro σ_3214 v6_3214 v8_3214 v9_3214 v10_3214
  unfold M_L_law_J3214
  refine x_iconst C 3214 dL_law_3214 ki_0 ?_
  exact hJ3215 _ _ _ _ _ _
set_option maxRecDepth 100000 in
set_option maxHeartbeats 40000000 in
theorem c_LJ3186 {V : Ct_V} {A : Nat → Nat} {q : Lq} {K : Kt} (C : Fx K (Zl V A q) cL_law RL 7 171) (hNW : ∀ w ∈ NWl, va_Nw w K.2.2.2.2.1) (hN : ∀ i, i < 30 → ∀ K2 : Kt, K = K2 → i < K2.2.2.2.2.2.2.2.2.2.2.1) (R : Lr K (Zl V A q))  (hJ3214 : ∀ (σ_3214 : Wd) (v6_3214 : Int32) (v8_3214 : Int32) (v9_3214 : Int32) (v10_3214 : Int32), Y K (Zl V A q) (M_L_law_J3214 q σ_3214 v6_3214 v8_3214 v9_3214 v10_3214) (fun q : Int32 × Wd => q.1 = 1) σ_3214 3214 [(1, .ref (A 0)), (3, .ref (zA (Zl V A q) 0)), (4, .ref (A 1)), (6, .int v6_3214), (8, .int v8_3214), (9, .int v9_3214), (10, .int v10_3214)] []) (hJ3215 : ∀ (σ_3215 : Wd) (v6_3215 : Int32) (v8_3215 : Int32) (v9_3215 : Int32) (v10_3215 : Int32) (t0_3215 : Int32), Y K (Zl V A q) (M_L_law_J3215 q σ_3215 v6_3215 v8_3215 v9_3215 v10_3215 t0_3215) (fun q : Int32 × Wd => q.1 = 1) σ_3215 3215 [(1, .ref (A 0)), (3, .ref (zA (Zl V A q) 0)), (4, .ref (A 1)), (6, .int v6_3215), (8, .int v8_3215), (9, .int v9_3215), (10, .int v10_3215)] [.int t0_3215]) : ∀ (σ_3186 : Wd) (v6_3186 : Int32) (v8_3186 : Int32) (v9_3186 : Int32) (v10_3186 : Int32) (t0_3186 : Int32) (t1_3186 : Int32), Y K (Zl V A q) (M_L_law_J3186 q σ_3186 v6_3186 v8_3186 v9_3186 v10_3186 t0_3186 t1_3186) (fun q : Int32 × Wd => q.1 = 1) σ_3186 3186 [(1, .ref (A 0)), (3, .ref (zA (Zl V A q) 0)), (4, .ref (A 1)), (6, .int v6_3186), (8, .int v8_3186), (9, .int v9_3186), (10, .int v10_3186)] [.int t0_3186, .int t1_3186] := by
  intro σ_3186 v6_3186 v8_3186 v9_3186 v10_3186 t0_3186 t1_3186
  unfold M_L_law_J3186
  refine x_icmp_ne C 3186 3214 dL_law_3186 (by decide) (fun _ => ?_) (fun _ => ?_)
  · exact hJ3214 _ _ _ _ _
  · refine x_aload_n C 3189 1 dL_law_3189 rfl ?_
    refine x_bipush C 3190 dL_law_3190 kb_9 ?_
    refine x_iconst C 3192 dL_law_3192 ki_5 ?_
    refine Y_bnd2 (fun r3193 s_3193 h3193 => ?_)
    refine x_callLV C 3193 [.int (9 : Int32), .int (5 : Int32)] [] rfl tw_1096 mv_X8_year rfl (Nat.le_of_ble_eq_true rfl) (Nat.le_of_ble_eq_true rfl) (Nat.le_of_ble_eq_true rfl) dL_law_3193 (c_X8_year V _ _ _ _ h3193) ?_
    refine x_if_lt C 3196 3214 dL_law_3196 (by decide) (fun _ => ?_) (fun _ => ?_)
    · exact hJ3214 _ _ _ _ _
    · refine x_aload_n C 3199 1 dL_law_3199 rfl ?_
      refine x_bipush C 3200 dL_law_3200 kb_9 ?_
      refine x_iconst C 3202 dL_law_3202 ki_5 ?_
      refine Y_bnd2 (fun r3203 s_3203 h3203 => ?_)
      refine x_callLV C 3203 [.int (9 : Int32), .int (5 : Int32)] [] rfl tw_1096 mv_X8_year rfl (Nat.le_of_ble_eq_true rfl) (Nat.le_of_ble_eq_true rfl) (Nat.le_of_ble_eq_true rfl) dL_law_3203 (c_X8_year V _ _ _ _ h3203) ?_
      refine x_iconst C 3206 dL_law_3206 ki_5 ?_
      refine x_icmp_gt C 3207 3214 dL_law_3207 (by decide) (fun _ => ?_) (fun _ => ?_)
      · exact hJ3214 _ _ _ _ _
      · refine x_iconst C 3210 dL_law_3210 ki_1 ?_
        refine x_goto C 3211 3215 dL_law_3211 (by decide) ?_
        exact hJ3215 _ _ _ _ _ _
set_option maxRecDepth 100000 in
set_option maxHeartbeats 40000000 in
theorem c_LJ3163 {V : Ct_V} {A : Nat → Nat} {q : Lq} {K : Kt} (C : Fx K (Zl V A q) cL_law RL 7 171) (hNW : ∀ w ∈ NWl, va_Nw w K.2.2.2.2.1) (hN : ∀ i, i < 30 → ∀ K2 : Kt, K = K2 → i < K2.2.2.2.2.2.2.2.2.2.2.1) (R : Lr K (Zl V A q))   : ∀ (σ_3163 : Wd) (v5_3163 : Int32) (v6_3163 : Int32) (v8_3163 : Int32) (v9_3163 : Int32) (v10_3163 : Int32) (v16_3163 : Int32), Y K (Zl V A q) (M_L_law_J3163 q σ_3163 v5_3163 v6_3163 v8_3163 v9_3163 v10_3163 v16_3163) (fun q : Int32 × Wd => q.1 = 1) σ_3163 3163 [(1, .ref (A 0)), (3, .ref (zA (Zl V A q) 0)), (4, .ref (A 1)), (5, .int v5_3163), (6, .int v6_3163), (8, .int v8_3163), (9, .int v9_3163), (10, .int v10_3163), (16, .int v16_3163)] [] := by
  intro σ_3163 v5_3163 v6_3163 v8_3163 v9_3163 v10_3163 v16_3163
  unfold M_L_law_J3163
  refine x_iload C 3163 3 dL_law_3163 rfl ?_
  have hJ3215 : ∀ (σ_3215 : Wd) (v6_3215 : Int32) (v8_3215 : Int32) (v9_3215 : Int32) (v10_3215 : Int32) (t0_3215 : Int32), Y K (Zl V A q) (M_L_law_J3215 q σ_3215 v6_3215 v8_3215 v9_3215 v10_3215 t0_3215) (fun q : Int32 × Wd => q.1 = 1) σ_3215 3215 [(1, .ref (A 0)), (3, .ref (zA (Zl V A q) 0)), (4, .ref (A 1)), (6, .int v6_3215), (8, .int v8_3215), (9, .int v9_3215), (10, .int v10_3215)] [.int t0_3215] := c_LJ3215 C hNW hN R 
  have hJ3214 : ∀ (σ_3214 : Wd) (v6_3214 : Int32) (v8_3214 : Int32) (v9_3214 : Int32) (v10_3214 : Int32), Y K (Zl V A q) (M_L_law_J3214 q σ_3214 v6_3214 v8_3214 v9_3214 v10_3214) (fun q : Int32 × Wd => q.1 = 1) σ_3214 3214 [(1, .ref (A 0)), (3, .ref (zA (Zl V A q) 0)), (4, .ref (A 1)), (6, .int v6_3214), (8, .int v8_3214), (9, .int v9_3214), (10, .int v10_3214)] [] := c_LJ3214 C hNW hN R hJ3215
  refine x_if_eq C 3165 3214 dL_law_3165 (by decide) (fun _ => ?_) (fun _ => ?_)
  · refine Y_sub [0, 1, 2, 4, 5, 6, 7] rfl ?_
    exact hJ3214 _ _ _ _ _
  · refine x_aload_n C 3168 1 dL_law_3168 rfl ?_
    refine x_iconst C 3169 dL_law_3169 ki_0 ?_
    refine x_bipush C 3170 dL_law_3170 kb_7 ?_
    refine Y_bnd2 (fun r3172 s_3172 h3172 => ?_)
    refine x_callLV C 3172 [.int (0 : Int32), .int (7 : Int32)] [] rfl tw_1096 mv_X8_year rfl (Nat.le_of_ble_eq_true rfl) (Nat.le_of_ble_eq_true rfl) (Nat.le_of_ble_eq_true rfl) dL_law_3172 (c_X8_year V _ _ _ _ h3172) ?_
    refine x_iload C 3175 8 dL_law_3175 rfl ?_
    have hJ3186 : ∀ (σ_3186 : Wd) (v6_3186 : Int32) (v8_3186 : Int32) (v9_3186 : Int32) (v10_3186 : Int32) (t0_3186 : Int32) (t1_3186 : Int32), Y K (Zl V A q) (M_L_law_J3186 q σ_3186 v6_3186 v8_3186 v9_3186 v10_3186 t0_3186 t1_3186) (fun q : Int32 × Wd => q.1 = 1) σ_3186 3186 [(1, .ref (A 0)), (3, .ref (zA (Zl V A q) 0)), (4, .ref (A 1)), (6, .int v6_3186), (8, .int v8_3186), (9, .int v9_3186), (10, .int v10_3186)] [.int t0_3186, .int t1_3186] := c_LJ3186 C hNW hN R hJ3214 hJ3215
    refine x_if_ne C 3177 3185 dL_law_3177 (by decide) (fun _ => ?_) (fun _ => ?_)
    · refine x_iconst C 3185 dL_law_3185 ki_0 ?_
      refine Y_sub [0, 1, 2, 4, 5, 6, 7] rfl ?_
      exact hJ3186 _ _ _ _ _ _ _
    · refine x_bipush C 3180 dL_law_3180 kb_7 ?_
      refine x_goto C 3182 3186 dL_law_3182 (by decide) ?_
      refine Y_sub [0, 1, 2, 4, 5, 6, 7] rfl ?_
      exact hJ3186 _ _ _ _ _ _ _
set_option maxRecDepth 100000 in
set_option maxHeartbeats 40000000 in
theorem c_LJ3161 {V : Ct_V} {A : Nat → Nat} {q : Lq} {K : Kt} (C : Fx K (Zl V A q) cL_law RL 7 171) (hNW : ∀ w ∈ NWl, va_Nw w K.2.2.2.2.1) (hN : ∀ i, i < 30 → ∀ K2 : Kt, K = K2 → i < K2.2.2.2.2.2.2.2.2.2.2.1) (R : Lr K (Zl V A q))  (hJ3163 : ∀ (σ_3163 : Wd) (v5_3163 : Int32) (v6_3163 : Int32) (v8_3163 : Int32) (v9_3163 : Int32) (v10_3163 : Int32) (v16_3163 : Int32), Y K (Zl V A q) (M_L_law_J3163 q σ_3163 v5_3163 v6_3163 v8_3163 v9_3163 v10_3163 v16_3163) (fun q : Int32 × Wd => q.1 = 1) σ_3163 3163 [(1, .ref (A 0)), (3, .ref (zA (Zl V A q) 0)), (4, .ref (A 1)), (5, .int v5_3163), (6, .int v6_3163), (8, .int v8_3163), (9, .int v9_3163), (10, .int v10_3163), (16, .int v16_3163)] []) : ∀ (σ_3161 : Wd) (v6_3161 : Int32) (v8_3161 : Int32) (v9_3161 : Int32) (v10_3161 : Int32) (v16_3161 : Int32) (t0_3161 : Int32), Y K (Zl V A q) (M_L_law_J3161 q σ_3161 v6_3161 v8_3161 v9_3161 v10_3161 v16_3161 t0_3161) (fun q : Int32 × Wd => q.1 = 1) σ_3161 3161 [(1, .ref (A 0)), (3, .ref (zA (Zl V A q) 0)), (4, .ref (A 1)), (6, .int v6_3161), (8, .int v8_3161), (9, .int v9_3161), (10, .int v10_3161), (16, .int v16_3161)] [.int t0_3161] := by
  intro σ_3161 v6_3161 v8_3161 v9_3161 v10_3161 v16_3161 t0_3161
  unfold M_L_law_J3161
  refine x_istore C 3161 (L' := [(5, .int t0_3161), (1, .ref (A 0)), (3, .ref (zA (Zl V A q) 0)), (4, .ref (A 1)), (6, .int v6_3161), (8, .int v8_3161), (9, .int v9_3161), (10, .int v10_3161), (16, .int v16_3161)]) dL_law_3161 (hN _ (Nat.le_of_ble_eq_true rfl)) rfl ?_
  refine Y_sub [1, 2, 3, 0, 4, 5, 6, 7, 8] rfl ?_
  exact hJ3163 _ _ _ _ _ _ _
set_option maxRecDepth 100000 in
set_option maxHeartbeats 40000000 in
theorem c_LJ3160 {V : Ct_V} {A : Nat → Nat} {q : Lq} {K : Kt} (C : Fx K (Zl V A q) cL_law RL 7 171) (hNW : ∀ w ∈ NWl, va_Nw w K.2.2.2.2.1) (hN : ∀ i, i < 30 → ∀ K2 : Kt, K = K2 → i < K2.2.2.2.2.2.2.2.2.2.2.1) (R : Lr K (Zl V A q))  (hJ3161 : ∀ (σ_3161 : Wd) (v6_3161 : Int32) (v8_3161 : Int32) (v9_3161 : Int32) (v10_3161 : Int32) (v16_3161 : Int32) (t0_3161 : Int32), Y K (Zl V A q) (M_L_law_J3161 q σ_3161 v6_3161 v8_3161 v9_3161 v10_3161 v16_3161 t0_3161) (fun q : Int32 × Wd => q.1 = 1) σ_3161 3161 [(1, .ref (A 0)), (3, .ref (zA (Zl V A q) 0)), (4, .ref (A 1)), (6, .int v6_3161), (8, .int v8_3161), (9, .int v9_3161), (10, .int v10_3161), (16, .int v16_3161)] [.int t0_3161]) : ∀ (σ_3160 : Wd) (v6_3160 : Int32) (v8_3160 : Int32) (v9_3160 : Int32) (v10_3160 : Int32) (v16_3160 : Int32), Y K (Zl V A q) (M_L_law_J3160 q σ_3160 v6_3160 v8_3160 v9_3160 v10_3160 v16_3160) (fun q : Int32 × Wd => q.1 = 1) σ_3160 3160 [(1, .ref (A 0)), (3, .ref (zA (Zl V A q) 0)), (4, .ref (A 1)), (6, .int v6_3160), (8, .int v8_3160), (9, .int v9_3160), (10, .int v10_3160), (16, .int v16_3160)] [] := by
  intro σ_3160 v6_3160 v8_3160 v9_3160 v10_3160 v16_3160
  unfold M_L_law_J3160
  refine x_iconst C 3160 dL_law_3160 ki_0 ?_
  exact hJ3161 _ _ _ _ _ _ _
set_option maxRecDepth 100000 in
set_option maxHeartbeats 40000000 in
theorem c_LJ3120 {V : Ct_V} {A : Nat → Nat} {q : Lq} {K : Kt} (C : Fx K (Zl V A q) cL_law RL 7 171) (hNW : ∀ w ∈ NWl, va_Nw w K.2.2.2.2.1) (hN : ∀ i, i < 30 → ∀ K2 : Kt, K = K2 → i < K2.2.2.2.2.2.2.2.2.2.2.1) (R : Lr K (Zl V A q))  (hJ3160 : ∀ (σ_3160 : Wd) (v6_3160 : Int32) (v8_3160 : Int32) (v9_3160 : Int32) (v10_3160 : Int32) (v16_3160 : Int32), Y K (Zl V A q) (M_L_law_J3160 q σ_3160 v6_3160 v8_3160 v9_3160 v10_3160 v16_3160) (fun q : Int32 × Wd => q.1 = 1) σ_3160 3160 [(1, .ref (A 0)), (3, .ref (zA (Zl V A q) 0)), (4, .ref (A 1)), (6, .int v6_3160), (8, .int v8_3160), (9, .int v9_3160), (10, .int v10_3160), (16, .int v16_3160)] []) (hJ3161 : ∀ (σ_3161 : Wd) (v6_3161 : Int32) (v8_3161 : Int32) (v9_3161 : Int32) (v10_3161 : Int32) (v16_3161 : Int32) (t0_3161 : Int32), Y K (Zl V A q) (M_L_law_J3161 q σ_3161 v6_3161 v8_3161 v9_3161 v10_3161 v16_3161 t0_3161) (fun q : Int32 × Wd => q.1 = 1) σ_3161 3161 [(1, .ref (A 0)), (3, .ref (zA (Zl V A q) 0)), (4, .ref (A 1)), (6, .int v6_3161), (8, .int v8_3161), (9, .int v9_3161), (10, .int v10_3161), (16, .int v16_3161)] [.int t0_3161]) : ∀ (σ_3120 : Wd) (v6_3120 : Int32) (v8_3120 : Int32) (v9_3120 : Int32) (v10_3120 : Int32) (v16_3120 : Int32), Y K (Zl V A q) (M_L_law_J3120 q σ_3120 v6_3120 v8_3120 v9_3120 v10_3120 v16_3120) (fun q : Int32 × Wd => q.1 = 1) σ_3120 3120 [(1, .ref (A 0)), (3, .ref (zA (Zl V A q) 0)), (4, .ref (A 1)), (6, .int v6_3120), (8, .int v8_3120), (9, .int v9_3120), (10, .int v10_3120), (16, .int v16_3120)] [] := by
  intro σ_3120 v6_3120 v8_3120 v9_3120 v10_3120 v16_3120
  unfold M_L_law_J3120
  refine x_aload_n C 3120 1 dL_law_3120 rfl ?_
  refine x_iconst C 3121 dL_law_3121 ki_1 ?_
  refine Y_bnd2 (fun r3122 s_3122 h3122 => ?_)
  refine x_callLV C 3122 [.int (1 : Int32)] [] rfl tw_836 mv_X8_chance rfl (Nat.le_of_ble_eq_true rfl) (Nat.le_of_ble_eq_true rfl) (Nat.le_of_ble_eq_true rfl) dL_law_3122 (c_X8_chance V _ _ _ h3122) ?_
  refine x_if_le C 3125 3160 dL_law_3125 (by decide) (fun _ => ?_) (fun _ => ?_)
  · exact hJ3160 _ _ _ _ _ _
  · refine x_aload_n C 3128 1 dL_law_3128 rfl ?_
    refine x_bipush C 3129 dL_law_3129 kb_10 ?_
    refine Y_bnd2 (fun r3131 s_3131 h3131 => ?_)
    refine x_callLV C 3131 [.int (10 : Int32)] [] rfl tw_1117 mv_X8_count rfl (Nat.le_of_ble_eq_true rfl) (Nat.le_of_ble_eq_true rfl) (Nat.le_of_ble_eq_true rfl) dL_law_3131 (c_X8_count V _ _ _ h3131) ?_
    refine x_iconst C 3134 dL_law_3134 ki_1 ?_
    refine x_icmp_ne C 3135 3160 dL_law_3135 (by decide) (fun _ => ?_) (fun _ => ?_)
    · exact hJ3160 _ _ _ _ _ _
    · refine x_aload_n C 3138 1 dL_law_3138 rfl ?_
      refine x_iconst C 3139 dL_law_3139 ki_4 ?_
      refine Y_bnd2 (fun r3140 s_3140 h3140 => ?_)
      refine x_callLV C 3140 [.int (4 : Int32)] [] rfl tw_1117 mv_X8_count rfl (Nat.le_of_ble_eq_true rfl) (Nat.le_of_ble_eq_true rfl) (Nat.le_of_ble_eq_true rfl) dL_law_3140 (c_X8_count V _ _ _ h3140) ?_
      refine x_iload C 3143 4 dL_law_3143 rfl ?_
      refine x_icmp_ne C 3145 3160 dL_law_3145 (by decide) (fun _ => ?_) (fun _ => ?_)
      · exact hJ3160 _ _ _ _ _ _
      · refine x_aload_n C 3148 1 dL_law_3148 rfl ?_
        refine x_iconst C 3149 dL_law_3149 ki_0 ?_
        refine Y_bnd2 (fun r3150 s_3150 h3150 => ?_)
        refine x_callLV C 3150 [.int (0 : Int32)] [] rfl tw_1113 mv_X8_restore rfl (Nat.le_of_ble_eq_true rfl) (Nat.le_of_ble_eq_true rfl) (Nat.le_of_ble_eq_true rfl) dL_law_3150 (c_X8_restore V _ _ _ h3150) ?_
        refine x_if_eq C 3153 3160 dL_law_3153 (by decide) (fun _ => ?_) (fun _ => ?_)
        · exact hJ3160 _ _ _ _ _ _
        · refine x_iconst C 3156 dL_law_3156 ki_1 ?_
          refine x_goto C 3157 3161 dL_law_3157 (by decide) ?_
          exact hJ3161 _ _ _ _ _ _ _
set_option maxRecDepth 100000 in
set_option maxHeartbeats 40000000 in
theorem c_LJ3078 {V : Ct_V} {A : Nat → Nat} {q : Lq} {K : Kt} (C : Fx K (Zl V A q) cL_law RL 7 171) (hNW : ∀ w ∈ NWl, va_Nw w K.2.2.2.2.1) (hN : ∀ i, i < 30 → ∀ K2 : Kt, K = K2 → i < K2.2.2.2.2.2.2.2.2.2.2.1) (R : Lr K (Zl V A q))   : ∀ (σ_3078 : Wd) (v6_3078 : Int32) (v8_3078 : Int32) (v9_3078 : Int32) (v10_3078 : Int32) (v16_3078 : Int32) (t0_3078 : Int32), Y K (Zl V A q) (M_L_law_J3078 q σ_3078 v6_3078 v8_3078 v9_3078 v10_3078 v16_3078 t0_3078) (fun q : Int32 × Wd => q.1 = 1) σ_3078 3078 [(1, .ref (A 0)), (3, .ref (zA (Zl V A q) 0)), (4, .ref (A 1)), (6, .int v6_3078), (8, .int v8_3078), (9, .int v9_3078), (10, .int v10_3078), (16, .int v16_3078)] [.int t0_3078] := by
  intro σ_3078 v6_3078 v8_3078 v9_3078 v10_3078 v16_3078 t0_3078
  unfold M_L_law_J3078
  refine x_istore C 3078 (L' := [(5, .int t0_3078), (1, .ref (A 0)), (3, .ref (zA (Zl V A q) 0)), (4, .ref (A 1)), (6, .int v6_3078), (8, .int v8_3078), (9, .int v9_3078), (10, .int v10_3078), (16, .int v16_3078)]) dL_law_3078 (hN _ (Nat.le_of_ble_eq_true rfl)) rfl ?_
  refine x_iload C 3080 8 dL_law_3080 rfl ?_
  have hJ3163 : ∀ (σ_3163 : Wd) (v5_3163 : Int32) (v6_3163 : Int32) (v8_3163 : Int32) (v9_3163 : Int32) (v10_3163 : Int32) (v16_3163 : Int32), Y K (Zl V A q) (M_L_law_J3163 q σ_3163 v5_3163 v6_3163 v8_3163 v9_3163 v10_3163 v16_3163) (fun q : Int32 × Wd => q.1 = 1) σ_3163 3163 [(1, .ref (A 0)), (3, .ref (zA (Zl V A q) 0)), (4, .ref (A 1)), (5, .int v5_3163), (6, .int v6_3163), (8, .int v8_3163), (9, .int v9_3163), (10, .int v10_3163), (16, .int v16_3163)] [] := c_LJ3163 C hNW hN R 
  refine x_if_le C 3082 3163 dL_law_3082 (by decide) (fun _ => ?_) (fun _ => ?_)
  · refine Y_sub [1, 2, 3, 0, 4, 5, 6, 7, 8] rfl ?_
    exact hJ3163 _ _ _ _ _ _ _
  · refine x_iload C 3085 0 dL_law_3085 rfl ?_
    have hJ3161 : ∀ (σ_3161 : Wd) (v6_3161 : Int32) (v8_3161 : Int32) (v9_3161 : Int32) (v10_3161 : Int32) (v16_3161 : Int32) (t0_3161 : Int32), Y K (Zl V A q) (M_L_law_J3161 q σ_3161 v6_3161 v8_3161 v9_3161 v10_3161 v16_3161 t0_3161) (fun q : Int32 × Wd => q.1 = 1) σ_3161 3161 [(1, .ref (A 0)), (3, .ref (zA (Zl V A q) 0)), (4, .ref (A 1)), (6, .int v6_3161), (8, .int v8_3161), (9, .int v9_3161), (10, .int v10_3161), (16, .int v16_3161)] [.int t0_3161] := c_LJ3161 C hNW hN R hJ3163
    have hJ3160 : ∀ (σ_3160 : Wd) (v6_3160 : Int32) (v8_3160 : Int32) (v9_3160 : Int32) (v10_3160 : Int32) (v16_3160 : Int32), Y K (Zl V A q) (M_L_law_J3160 q σ_3160 v6_3160 v8_3160 v9_3160 v10_3160 v16_3160) (fun q : Int32 × Wd => q.1 = 1) σ_3160 3160 [(1, .ref (A 0)), (3, .ref (zA (Zl V A q) 0)), (4, .ref (A 1)), (6, .int v6_3160), (8, .int v8_3160), (9, .int v9_3160), (10, .int v10_3160), (16, .int v16_3160)] [] := c_LJ3160 C hNW hN R hJ3161
    refine x_if_eq C 3087 3160 dL_law_3087 (by decide) (fun _ => ?_) (fun _ => ?_)
    · refine Y_sub [1, 2, 3, 4, 5, 6, 7, 8] rfl ?_
      exact hJ3160 _ _ _ _ _ _
    · refine x_aload_n C 3090 2 dL_law_3090 rfl ?_
      refine x_iload C 3091 8 dL_law_3091 rfl ?_
      refine x_iconst C 3093 dL_law_3093 ki_1 ?_
      refine x_isub C 3094 dL_law_3094 ?_
      refine Y_bnd2 (fun r3095 s_3095 h3095 => ?_)
      refine x_callLV C 3095 [.int (v16_3078 - (1 : Int32))] [] rfl tw_836 mv_X8_chance rfl (Nat.le_of_ble_eq_true rfl) (Nat.le_of_ble_eq_true rfl) (Nat.le_of_ble_eq_true rfl) dL_law_3095 (c_X8_chance V _ _ _ h3095) ?_
      refine x_if_lt C 3098 3160 dL_law_3098 (by decide) (fun _ => ?_) (fun _ => ?_)
      · refine Y_sub [1, 2, 3, 4, 5, 6, 7, 8] rfl ?_
        exact hJ3160 _ _ _ _ _ _
      · refine x_aload_n C 3101 2 dL_law_3101 rfl ?_
        refine x_bipush C 3102 dL_law_3102 kb_10 ?_
        refine Y_bnd2 (fun r3104 s_3104 h3104 => ?_)
        refine x_callLV C 3104 [.int (10 : Int32)] [] rfl tw_1117 mv_X8_count rfl (Nat.le_of_ble_eq_true rfl) (Nat.le_of_ble_eq_true rfl) (Nat.le_of_ble_eq_true rfl) dL_law_3104 (c_X8_count V _ _ _ h3104) ?_
        have hJ3120 : ∀ (σ_3120 : Wd) (v6_3120 : Int32) (v8_3120 : Int32) (v9_3120 : Int32) (v10_3120 : Int32) (v16_3120 : Int32), Y K (Zl V A q) (M_L_law_J3120 q σ_3120 v6_3120 v8_3120 v9_3120 v10_3120 v16_3120) (fun q : Int32 × Wd => q.1 = 1) σ_3120 3120 [(1, .ref (A 0)), (3, .ref (zA (Zl V A q) 0)), (4, .ref (A 1)), (6, .int v6_3120), (8, .int v8_3120), (9, .int v9_3120), (10, .int v10_3120), (16, .int v16_3120)] [] := c_LJ3120 C hNW hN R hJ3160 hJ3161
        refine x_if_eq C 3107 3120 dL_law_3107 (by decide) (fun _ => ?_) (fun _ => ?_)
        · refine Y_sub [1, 2, 3, 4, 5, 6, 7, 8] rfl ?_
          exact hJ3120 _ _ _ _ _ _
        · refine x_aload_n C 3110 2 dL_law_3110 rfl ?_
          refine x_iconst C 3111 dL_law_3111 ki_4 ?_
          refine Y_bnd2 (fun r3112 s_3112 h3112 => ?_)
          refine x_callLV C 3112 [.int (4 : Int32)] [] rfl tw_1117 mv_X8_count rfl (Nat.le_of_ble_eq_true rfl) (Nat.le_of_ble_eq_true rfl) (Nat.le_of_ble_eq_true rfl) dL_law_3112 (c_X8_count V _ _ _ h3112) ?_
          refine x_iload C 3115 5 dL_law_3115 rfl ?_
          refine x_icmp_ge C 3117 3160 dL_law_3117 (by decide) (fun _ => ?_) (fun _ => ?_)
          · refine Y_sub [1, 2, 3, 4, 5, 6, 7, 8] rfl ?_
            exact hJ3160 _ _ _ _ _ _
          · refine Y_sub [1, 2, 3, 4, 5, 6, 7, 8] rfl ?_
            exact hJ3120 _ _ _ _ _ _
set_option maxRecDepth 100000 in
set_option maxHeartbeats 40000000 in
theorem c_LJ3077 {V : Ct_V} {A : Nat → Nat} {q : Lq} {K : Kt} (C : Fx K (Zl V A q) cL_law RL 7 171) (hNW : ∀ w ∈ NWl, va_Nw w K.2.2.2.2.1) (hN : ∀ i, i < 30 → ∀ K2 : Kt, K = K2 → i < K2.2.2.2.2.2.2.2.2.2.2.1) (R : Lr K (Zl V A q))  (hJ3078 : ∀ (σ_3078 : Wd) (v6_3078 : Int32) (v8_3078 : Int32) (v9_3078 : Int32) (v10_3078 : Int32) (v16_3078 : Int32) (t0_3078 : Int32), Y K (Zl V A q) (M_L_law_J3078 q σ_3078 v6_3078 v8_3078 v9_3078 v10_3078 v16_3078 t0_3078) (fun q : Int32 × Wd => q.1 = 1) σ_3078 3078 [(1, .ref (A 0)), (3, .ref (zA (Zl V A q) 0)), (4, .ref (A 1)), (6, .int v6_3078), (8, .int v8_3078), (9, .int v9_3078), (10, .int v10_3078), (16, .int v16_3078)] [.int t0_3078]) : ∀ (σ_3077 : Wd) (v6_3077 : Int32) (v8_3077 : Int32) (v9_3077 : Int32) (v10_3077 : Int32) (v16_3077 : Int32), Y K (Zl V A q) (M_L_law_J3077 q σ_3077 v6_3077 v8_3077 v9_3077 v10_3077 v16_3077) (fun q : Int32 × Wd => q.1 = 1) σ_3077 3077 [(1, .ref (A 0)), (3, .ref (zA (Zl V A q) 0)), (4, .ref (A 1)), (6, .int v6_3077), (8, .int v8_3077), (9, .int v9_3077), (10, .int v10_3077), (16, .int v16_3077)] [] := by
  intro σ_3077 v6_3077 v8_3077 v9_3077 v10_3077 v16_3077
  unfold M_L_law_J3077
  refine x_iconst C 3077 dL_law_3077 ki_0 ?_
  exact hJ3078 _ _ _ _ _ _ _
set_option maxRecDepth 100000 in
set_option maxHeartbeats 40000000 in
theorem c_LJ3070 {V : Ct_V} {A : Nat → Nat} {q : Lq} {K : Kt} (C : Fx K (Zl V A q) cL_law RL 7 171) (hNW : ∀ w ∈ NWl, va_Nw w K.2.2.2.2.1) (hN : ∀ i, i < 30 → ∀ K2 : Kt, K = K2 → i < K2.2.2.2.2.2.2.2.2.2.2.1) (R : Lr K (Zl V A q))  (hJ3077 : ∀ (σ_3077 : Wd) (v6_3077 : Int32) (v8_3077 : Int32) (v9_3077 : Int32) (v10_3077 : Int32) (v16_3077 : Int32), Y K (Zl V A q) (M_L_law_J3077 q σ_3077 v6_3077 v8_3077 v9_3077 v10_3077 v16_3077) (fun q : Int32 × Wd => q.1 = 1) σ_3077 3077 [(1, .ref (A 0)), (3, .ref (zA (Zl V A q) 0)), (4, .ref (A 1)), (6, .int v6_3077), (8, .int v8_3077), (9, .int v9_3077), (10, .int v10_3077), (16, .int v16_3077)] []) (hJ3078 : ∀ (σ_3078 : Wd) (v6_3078 : Int32) (v8_3078 : Int32) (v9_3078 : Int32) (v10_3078 : Int32) (v16_3078 : Int32) (t0_3078 : Int32), Y K (Zl V A q) (M_L_law_J3078 q σ_3078 v6_3078 v8_3078 v9_3078 v10_3078 v16_3078 t0_3078) (fun q : Int32 × Wd => q.1 = 1) σ_3078 3078 [(1, .ref (A 0)), (3, .ref (zA (Zl V A q) 0)), (4, .ref (A 1)), (6, .int v6_3078), (8, .int v8_3078), (9, .int v9_3078), (10, .int v10_3078), (16, .int v16_3078)] [.int t0_3078]) : ∀ (σ_3070 : Wd) (v6_3070 : Int32) (v8_3070 : Int32) (v9_3070 : Int32) (v10_3070 : Int32) (v16_3070 : Int32) (t0_3070 : Int32) (t1_3070 : Int32), Y K (Zl V A q) (M_L_law_J3070 q σ_3070 v6_3070 v8_3070 v9_3070 v10_3070 v16_3070 t0_3070 t1_3070) (fun q : Int32 × Wd => q.1 = 1) σ_3070 3070 [(1, .ref (A 0)), (3, .ref (zA (Zl V A q) 0)), (4, .ref (A 1)), (6, .int v6_3070), (8, .int v8_3070), (9, .int v9_3070), (10, .int v10_3070), (16, .int v16_3070)] [.int t0_3070, .int t1_3070] := by
  intro σ_3070 v6_3070 v8_3070 v9_3070 v10_3070 v16_3070 t0_3070 t1_3070
  unfold M_L_law_J3070
  refine x_icmp_ne C 3070 3077 dL_law_3070 (by decide) (fun _ => ?_) (fun _ => ?_)
  · exact hJ3077 _ _ _ _ _ _
  · refine x_iconst C 3073 dL_law_3073 ki_1 ?_
    refine x_goto C 3074 3078 dL_law_3074 (by decide) ?_
    exact hJ3078 _ _ _ _ _ _ _
set_option maxRecDepth 100000 in
set_option maxHeartbeats 40000000 in
theorem c_LJ3069 {V : Ct_V} {A : Nat → Nat} {q : Lq} {K : Kt} (C : Fx K (Zl V A q) cL_law RL 7 171) (hNW : ∀ w ∈ NWl, va_Nw w K.2.2.2.2.1) (hN : ∀ i, i < 30 → ∀ K2 : Kt, K = K2 → i < K2.2.2.2.2.2.2.2.2.2.2.1) (R : Lr K (Zl V A q))  (hJ3070 : ∀ (σ_3070 : Wd) (v6_3070 : Int32) (v8_3070 : Int32) (v9_3070 : Int32) (v10_3070 : Int32) (v16_3070 : Int32) (t0_3070 : Int32) (t1_3070 : Int32), Y K (Zl V A q) (M_L_law_J3070 q σ_3070 v6_3070 v8_3070 v9_3070 v10_3070 v16_3070 t0_3070 t1_3070) (fun q : Int32 × Wd => q.1 = 1) σ_3070 3070 [(1, .ref (A 0)), (3, .ref (zA (Zl V A q) 0)), (4, .ref (A 1)), (6, .int v6_3070), (8, .int v8_3070), (9, .int v9_3070), (10, .int v10_3070), (16, .int v16_3070)] [.int t0_3070, .int t1_3070]) : ∀ (σ_3069 : Wd) (v6_3069 : Int32) (v8_3069 : Int32) (v9_3069 : Int32) (v10_3069 : Int32) (v16_3069 : Int32) (t0_3069 : Int32), Y K (Zl V A q) (M_L_law_J3069 q σ_3069 v6_3069 v8_3069 v9_3069 v10_3069 v16_3069 t0_3069) (fun q : Int32 × Wd => q.1 = 1) σ_3069 3069 [(1, .ref (A 0)), (3, .ref (zA (Zl V A q) 0)), (4, .ref (A 1)), (6, .int v6_3069), (8, .int v8_3069), (9, .int v9_3069), (10, .int v10_3069), (16, .int v16_3069)] [.int t0_3069] := by
  intro σ_3069 v6_3069 v8_3069 v9_3069 v10_3069 v16_3069 t0_3069
  unfold M_L_law_J3069
  refine x_iconst C 3069 dL_law_3069 ki_0 ?_
  exact hJ3070 _ _ _ _ _ _ _ _
set_option maxRecDepth 100000 in
set_option maxHeartbeats 40000000 in
theorem c_LJ3048 {V : Ct_V} {A : Nat → Nat} {q : Lq} {K : Kt} (C : Fx K (Zl V A q) cL_law RL 7 171) (hNW : ∀ w ∈ NWl, va_Nw w K.2.2.2.2.1) (hN : ∀ i, i < 30 → ∀ K2 : Kt, K = K2 → i < K2.2.2.2.2.2.2.2.2.2.2.1) (R : Lr K (Zl V A q))  (hJ3077 : ∀ (σ_3077 : Wd) (v6_3077 : Int32) (v8_3077 : Int32) (v9_3077 : Int32) (v10_3077 : Int32) (v16_3077 : Int32), Y K (Zl V A q) (M_L_law_J3077 q σ_3077 v6_3077 v8_3077 v9_3077 v10_3077 v16_3077) (fun q : Int32 × Wd => q.1 = 1) σ_3077 3077 [(1, .ref (A 0)), (3, .ref (zA (Zl V A q) 0)), (4, .ref (A 1)), (6, .int v6_3077), (8, .int v8_3077), (9, .int v9_3077), (10, .int v10_3077), (16, .int v16_3077)] []) (hJ3078 : ∀ (σ_3078 : Wd) (v6_3078 : Int32) (v8_3078 : Int32) (v9_3078 : Int32) (v10_3078 : Int32) (v16_3078 : Int32) (t0_3078 : Int32), Y K (Zl V A q) (M_L_law_J3078 q σ_3078 v6_3078 v8_3078 v9_3078 v10_3078 v16_3078 t0_3078) (fun q : Int32 × Wd => q.1 = 1) σ_3078 3078 [(1, .ref (A 0)), (3, .ref (zA (Zl V A q) 0)), (4, .ref (A 1)), (6, .int v6_3078), (8, .int v8_3078), (9, .int v9_3078), (10, .int v10_3078), (16, .int v16_3078)] [.int t0_3078]) : ∀ (σ_3048 : Wd) (v6_3048 : Int32) (v8_3048 : Int32) (v9_3048 : Int32) (v10_3048 : Int32) (v16_3048 : Int32) (t0_3048 : Int32), Y K (Zl V A q) (M_L_law_J3048 q σ_3048 v6_3048 v8_3048 v9_3048 v10_3048 v16_3048 t0_3048) (fun q : Int32 × Wd => q.1 = 1) σ_3048 3048 [(1, .ref (A 0)), (3, .ref (zA (Zl V A q) 0)), (4, .ref (A 1)), (6, .int v6_3048), (8, .int v8_3048), (9, .int v9_3048), (10, .int v10_3048), (16, .int v16_3048)] [.int t0_3048] := by
  intro σ_3048 v6_3048 v8_3048 v9_3048 v10_3048 v16_3048 t0_3048
  unfold M_L_law_J3048
  refine x_aload_n C 3048 1 dL_law_3048 rfl ?_
  refine x_bipush C 3049 dL_law_3049 kb_10 ?_
  refine Y_bnd2 (fun r3051 s_3051 h3051 => ?_)
  refine x_callLV C 3051 [.int (10 : Int32)] [.int t0_3048] rfl tw_1117 mv_X8_count rfl (Nat.le_of_ble_eq_true rfl) (Nat.le_of_ble_eq_true rfl) (Nat.le_of_ble_eq_true rfl) dL_law_3051 (c_X8_count V _ _ _ h3051) ?_
  refine x_iconst C 3054 dL_law_3054 ki_1 ?_
  have hJ3070 : ∀ (σ_3070 : Wd) (v6_3070 : Int32) (v8_3070 : Int32) (v9_3070 : Int32) (v10_3070 : Int32) (v16_3070 : Int32) (t0_3070 : Int32) (t1_3070 : Int32), Y K (Zl V A q) (M_L_law_J3070 q σ_3070 v6_3070 v8_3070 v9_3070 v10_3070 v16_3070 t0_3070 t1_3070) (fun q : Int32 × Wd => q.1 = 1) σ_3070 3070 [(1, .ref (A 0)), (3, .ref (zA (Zl V A q) 0)), (4, .ref (A 1)), (6, .int v6_3070), (8, .int v8_3070), (9, .int v9_3070), (10, .int v10_3070), (16, .int v16_3070)] [.int t0_3070, .int t1_3070] := c_LJ3070 C hNW hN R hJ3077 hJ3078
  have hJ3069 : ∀ (σ_3069 : Wd) (v6_3069 : Int32) (v8_3069 : Int32) (v9_3069 : Int32) (v10_3069 : Int32) (v16_3069 : Int32) (t0_3069 : Int32), Y K (Zl V A q) (M_L_law_J3069 q σ_3069 v6_3069 v8_3069 v9_3069 v10_3069 v16_3069 t0_3069) (fun q : Int32 × Wd => q.1 = 1) σ_3069 3069 [(1, .ref (A 0)), (3, .ref (zA (Zl V A q) 0)), (4, .ref (A 1)), (6, .int v6_3069), (8, .int v8_3069), (9, .int v9_3069), (10, .int v10_3069), (16, .int v16_3069)] [.int t0_3069] := c_LJ3069 C hNW hN R hJ3070
  refine x_icmp_ne C 3055 3069 dL_law_3055 (by decide) (fun _ => ?_) (fun _ => ?_)
  · exact hJ3069 _ _ _ _ _ _ _
  · refine x_iload C 3058 5 dL_law_3058 rfl ?_
    refine x_iload C 3060 4 dL_law_3060 rfl ?_
    refine x_icmp_ne C 3062 3069 dL_law_3062 (by decide) (fun _ => ?_) (fun _ => ?_)
    · exact hJ3069 _ _ _ _ _ _ _
    · refine x_iconst C 3065 dL_law_3065 ki_1 ?_
      refine x_goto C 3066 3070 dL_law_3066 (by decide) ?_
      exact hJ3070 _ _ _ _ _ _ _ _
set_option maxRecDepth 100000 in
set_option maxHeartbeats 40000000 in
theorem c_LJ3025 {V : Ct_V} {A : Nat → Nat} {q : Lq} {K : Kt} (C : Fx K (Zl V A q) cL_law RL 7 171) (hNW : ∀ w ∈ NWl, va_Nw w K.2.2.2.2.1) (hN : ∀ i, i < 30 → ∀ K2 : Kt, K = K2 → i < K2.2.2.2.2.2.2.2.2.2.2.1) (R : Lr K (Zl V A q))   : ∀ (σ_3025 : Wd) (v6_3025 : Int32) (v8_3025 : Int32) (v9_3025 : Int32) (v10_3025 : Int32) (t0_3025 : Int32), Y K (Zl V A q) (M_L_law_J3025 q σ_3025 v6_3025 v8_3025 v9_3025 v10_3025 t0_3025) (fun q : Int32 × Wd => q.1 = 1) σ_3025 3025 [(1, .ref (A 0)), (3, .ref (zA (Zl V A q) 0)), (4, .ref (A 1)), (6, .int v6_3025), (8, .int v8_3025), (9, .int v9_3025), (10, .int v10_3025)] [.int t0_3025] := by
  intro σ_3025 v6_3025 v8_3025 v9_3025 v10_3025 t0_3025
  unfold M_L_law_J3025
  refine x_istore C 3025 (L' := [(5, .int t0_3025), (1, .ref (A 0)), (3, .ref (zA (Zl V A q) 0)), (4, .ref (A 1)), (6, .int v6_3025), (8, .int v8_3025), (9, .int v9_3025), (10, .int v10_3025)]) dL_law_3025 (hN _ (Nat.le_of_ble_eq_true rfl)) rfl ?_
  refine x_aload_n C 3027 2 dL_law_3027 rfl ?_
  refine Y_bnd2 (fun r3028 s_3028 h3028 => ?_)
  refine x_callLV C 3028 [] [] rfl tw_1069 mv_X8_soon rfl (Nat.le_of_ble_eq_true rfl) (Nat.le_of_ble_eq_true rfl) (Nat.le_of_ble_eq_true rfl) dL_law_3028 (c_X8_soon V _ _  h3028) ?_
  refine x_istore C 3031 (L' := [(16, .int r3028), (5, .int t0_3025), (1, .ref (A 0)), (3, .ref (zA (Zl V A q) 0)), (4, .ref (A 1)), (6, .int v6_3025), (8, .int v8_3025), (9, .int v9_3025), (10, .int v10_3025)]) dL_law_3031 (hN _ (Nat.le_of_ble_eq_true rfl)) rfl ?_
  refine x_iload C 3033 1 dL_law_3033 rfl ?_
  have hJ3078 : ∀ (σ_3078 : Wd) (v6_3078 : Int32) (v8_3078 : Int32) (v9_3078 : Int32) (v10_3078 : Int32) (v16_3078 : Int32) (t0_3078 : Int32), Y K (Zl V A q) (M_L_law_J3078 q σ_3078 v6_3078 v8_3078 v9_3078 v10_3078 v16_3078 t0_3078) (fun q : Int32 × Wd => q.1 = 1) σ_3078 3078 [(1, .ref (A 0)), (3, .ref (zA (Zl V A q) 0)), (4, .ref (A 1)), (6, .int v6_3078), (8, .int v8_3078), (9, .int v9_3078), (10, .int v10_3078), (16, .int v16_3078)] [.int t0_3078] := c_LJ3078 C hNW hN R 
  have hJ3077 : ∀ (σ_3077 : Wd) (v6_3077 : Int32) (v8_3077 : Int32) (v9_3077 : Int32) (v10_3077 : Int32) (v16_3077 : Int32), Y K (Zl V A q) (M_L_law_J3077 q σ_3077 v6_3077 v8_3077 v9_3077 v10_3077 v16_3077) (fun q : Int32 × Wd => q.1 = 1) σ_3077 3077 [(1, .ref (A 0)), (3, .ref (zA (Zl V A q) 0)), (4, .ref (A 1)), (6, .int v6_3077), (8, .int v8_3077), (9, .int v9_3077), (10, .int v10_3077), (16, .int v16_3077)] [] := c_LJ3077 C hNW hN R hJ3078
  refine x_if_eq C 3035 3077 dL_law_3035 (by decide) (fun _ => ?_) (fun _ => ?_)
  · refine Y_sub [2, 3, 4, 5, 6, 7, 8, 0] rfl ?_
    exact hJ3077 _ _ _ _ _ _
  · refine x_iload C 3038 0 dL_law_3038 rfl ?_
    have hJ3048 : ∀ (σ_3048 : Wd) (v6_3048 : Int32) (v8_3048 : Int32) (v9_3048 : Int32) (v10_3048 : Int32) (v16_3048 : Int32) (t0_3048 : Int32), Y K (Zl V A q) (M_L_law_J3048 q σ_3048 v6_3048 v8_3048 v9_3048 v10_3048 v16_3048 t0_3048) (fun q : Int32 × Wd => q.1 = 1) σ_3048 3048 [(1, .ref (A 0)), (3, .ref (zA (Zl V A q) 0)), (4, .ref (A 1)), (6, .int v6_3048), (8, .int v8_3048), (9, .int v9_3048), (10, .int v10_3048), (16, .int v16_3048)] [.int t0_3048] := c_LJ3048 C hNW hN R hJ3077 hJ3078
    refine x_if_ne C 3040 3047 dL_law_3040 (by decide) (fun _ => ?_) (fun _ => ?_)
    · refine x_iconst C 3047 dL_law_3047 ki_0 ?_
      refine Y_sub [2, 3, 4, 5, 6, 7, 8, 0] rfl ?_
      exact hJ3048 _ _ _ _ _ _ _
    · refine x_iconst C 3043 dL_law_3043 ki_1 ?_
      refine x_goto C 3044 3048 dL_law_3044 (by decide) ?_
      refine Y_sub [2, 3, 4, 5, 6, 7, 8, 0] rfl ?_
      exact hJ3048 _ _ _ _ _ _ _
set_option maxRecDepth 100000 in
set_option maxHeartbeats 40000000 in
theorem c_LJ3024 {V : Ct_V} {A : Nat → Nat} {q : Lq} {K : Kt} (C : Fx K (Zl V A q) cL_law RL 7 171) (hNW : ∀ w ∈ NWl, va_Nw w K.2.2.2.2.1) (hN : ∀ i, i < 30 → ∀ K2 : Kt, K = K2 → i < K2.2.2.2.2.2.2.2.2.2.2.1) (R : Lr K (Zl V A q))  (hJ3025 : ∀ (σ_3025 : Wd) (v6_3025 : Int32) (v8_3025 : Int32) (v9_3025 : Int32) (v10_3025 : Int32) (t0_3025 : Int32), Y K (Zl V A q) (M_L_law_J3025 q σ_3025 v6_3025 v8_3025 v9_3025 v10_3025 t0_3025) (fun q : Int32 × Wd => q.1 = 1) σ_3025 3025 [(1, .ref (A 0)), (3, .ref (zA (Zl V A q) 0)), (4, .ref (A 1)), (6, .int v6_3025), (8, .int v8_3025), (9, .int v9_3025), (10, .int v10_3025)] [.int t0_3025]) : ∀ (σ_3024 : Wd) (v6_3024 : Int32) (v8_3024 : Int32) (v9_3024 : Int32) (v10_3024 : Int32), Y K (Zl V A q) (M_L_law_J3024 q σ_3024 v6_3024 v8_3024 v9_3024 v10_3024) (fun q : Int32 × Wd => q.1 = 1) σ_3024 3024 [(1, .ref (A 0)), (3, .ref (zA (Zl V A q) 0)), (4, .ref (A 1)), (6, .int v6_3024), (8, .int v8_3024), (9, .int v9_3024), (10, .int v10_3024)] [] := by
  intro σ_3024 v6_3024 v8_3024 v9_3024 v10_3024
  unfold M_L_law_J3024
  refine x_iconst C 3024 dL_law_3024 ki_0 ?_
  exact hJ3025 _ _ _ _ _ _
set_option maxRecDepth 100000 in
set_option maxHeartbeats 40000000 in
theorem c_LJ2971 {V : Ct_V} {A : Nat → Nat} {q : Lq} {K : Kt} (C : Fx K (Zl V A q) cL_law RL 7 171) (hNW : ∀ w ∈ NWl, va_Nw w K.2.2.2.2.1) (hN : ∀ i, i < 30 → ∀ K2 : Kt, K = K2 → i < K2.2.2.2.2.2.2.2.2.2.2.1) (R : Lr K (Zl V A q))   : ∀ (σ_2971 : Wd) (v5_2971 : Int32) (v6_2971 : Int32) (v8_2971 : Int32) (v9_2971 : Int32) (v10_2971 : Int32) (v12_2971 : Int32) (v15_2971 : Int32), Y K (Zl V A q) (M_L_law_J2971 q σ_2971 v5_2971 v6_2971 v8_2971 v9_2971 v10_2971 v12_2971 v15_2971) (fun q : Int32 × Wd => q.1 = 1) σ_2971 2971 [(1, .ref (A 0)), (3, .ref (zA (Zl V A q) 0)), (4, .ref (A 1)), (5, .int v5_2971), (6, .int v6_2971), (8, .int v8_2971), (9, .int v9_2971), (10, .int v10_2971), (12, .int v12_2971), (15, .int v15_2971)] [] := by
  intro σ_2971 v5_2971 v6_2971 v8_2971 v9_2971 v10_2971 v12_2971 v15_2971
  unfold M_L_law_J2971
  refine x_iload C 2971 3 dL_law_2971 rfl ?_
  have hJ3025 : ∀ (σ_3025 : Wd) (v6_3025 : Int32) (v8_3025 : Int32) (v9_3025 : Int32) (v10_3025 : Int32) (t0_3025 : Int32), Y K (Zl V A q) (M_L_law_J3025 q σ_3025 v6_3025 v8_3025 v9_3025 v10_3025 t0_3025) (fun q : Int32 × Wd => q.1 = 1) σ_3025 3025 [(1, .ref (A 0)), (3, .ref (zA (Zl V A q) 0)), (4, .ref (A 1)), (6, .int v6_3025), (8, .int v8_3025), (9, .int v9_3025), (10, .int v10_3025)] [.int t0_3025] := c_LJ3025 C hNW hN R 
  have hJ3024 : ∀ (σ_3024 : Wd) (v6_3024 : Int32) (v8_3024 : Int32) (v9_3024 : Int32) (v10_3024 : Int32), Y K (Zl V A q) (M_L_law_J3024 q σ_3024 v6_3024 v8_3024 v9_3024 v10_3024) (fun q : Int32 × Wd => q.1 = 1) σ_3024 3024 [(1, .ref (A 0)), (3, .ref (zA (Zl V A q) 0)), (4, .ref (A 1)), (6, .int v6_3024), (8, .int v8_3024), (9, .int v9_3024), (10, .int v10_3024)] [] := c_LJ3024 C hNW hN R hJ3025
  refine x_if_eq C 2973 3024 dL_law_2973 (by decide) (fun _ => ?_) (fun _ => ?_)
  · refine Y_sub [0, 1, 2, 4, 5, 6, 7] rfl ?_
    exact hJ3024 _ _ _ _ _
  · refine x_iload C 2976 9 dL_law_2976 rfl ?_
    refine x_iload C 2978 8 dL_law_2978 rfl ?_
    refine x_icmp_ne C 2980 3024 dL_law_2980 (by decide) (fun _ => ?_) (fun _ => ?_)
    · refine Y_sub [0, 1, 2, 4, 5, 6, 7] rfl ?_
      exact hJ3024 _ _ _ _ _
    · refine x_aload_n C 2983 1 dL_law_2983 rfl ?_
      refine x_bipush C 2984 dL_law_2984 kb_10 ?_
      refine Y_bnd2 (fun r2986 s_2986 h2986 => ?_)
      refine x_callLV C 2986 [.int (10 : Int32)] [] rfl tw_1117 mv_X8_count rfl (Nat.le_of_ble_eq_true rfl) (Nat.le_of_ble_eq_true rfl) (Nat.le_of_ble_eq_true rfl) dL_law_2986 (c_X8_count V _ _ _ h2986) ?_
      refine x_iconst C 2989 dL_law_2989 ki_1 ?_
      refine x_icmp_ne C 2990 3024 dL_law_2990 (by decide) (fun _ => ?_) (fun _ => ?_)
      · refine Y_sub [0, 1, 2, 4, 5, 6, 7] rfl ?_
        exact hJ3024 _ _ _ _ _
      · refine x_aload_n C 2993 1 dL_law_2993 rfl ?_
        refine x_bipush C 2994 dL_law_2994 kb_15 ?_
        refine Y_bnd2 (fun r2996 s_2996 h2996 => ?_)
        refine x_callLV C 2996 [.int (15 : Int32)] [] rfl tw_1117 mv_X8_count rfl (Nat.le_of_ble_eq_true rfl) (Nat.le_of_ble_eq_true rfl) (Nat.le_of_ble_eq_true rfl) dL_law_2996 (c_X8_count V _ _ _ h2996) ?_
        refine x_iload C 2999 5 dL_law_2999 rfl ?_
        refine x_icmp_ne C 3001 3024 dL_law_3001 (by decide) (fun _ => ?_) (fun _ => ?_)
        · refine Y_sub [0, 1, 2, 4, 5, 6, 7] rfl ?_
          exact hJ3024 _ _ _ _ _
        · refine x_aload_n C 3004 1 dL_law_3004 rfl ?_
          refine x_iconst C 3005 dL_law_3005 ki_0 ?_
          refine Y_bnd1 (fun r3006 h3006 => ?_)
          refine x_callLV C 3006 [.int (0 : Int32)] [] rfl tw_1038 mv_X8_plan rfl (Nat.le_of_ble_eq_true rfl) (Nat.le_of_ble_eq_true rfl) (Nat.le_of_ble_eq_true rfl) dL_law_3006 (c_X8_plan V _ _ _ h3006) ?_
          refine x_if_ne C 3009 3024 dL_law_3009 (by decide) (fun _ => ?_) (fun _ => ?_)
          · refine Y_sub [0, 1, 2, 4, 5, 6, 7] rfl ?_
            exact hJ3024 _ _ _ _ _
          · refine x_aload_n C 3012 1 dL_law_3012 rfl ?_
            refine x_iconst C 3013 dL_law_3013 ki_0 ?_
            refine Y_bnd2 (fun r3014 s_3014 h3014 => ?_)
            refine x_callLV C 3014 [.int (0 : Int32)] [] rfl tw_1113 mv_X8_restore rfl (Nat.le_of_ble_eq_true rfl) (Nat.le_of_ble_eq_true rfl) (Nat.le_of_ble_eq_true rfl) dL_law_3014 (c_X8_restore V _ _ _ h3014) ?_
            refine x_if_eq C 3017 3024 dL_law_3017 (by decide) (fun _ => ?_) (fun _ => ?_)
            · refine Y_sub [0, 1, 2, 4, 5, 6, 7] rfl ?_
              exact hJ3024 _ _ _ _ _
            · refine x_iconst C 3020 dL_law_3020 ki_1 ?_
              refine x_goto C 3021 3025 dL_law_3021 (by decide) ?_
              refine Y_sub [0, 1, 2, 4, 5, 6, 7] rfl ?_
              exact hJ3025 _ _ _ _ _ _
set_option maxRecDepth 100000 in
set_option maxHeartbeats 40000000 in
theorem c_LL2933 {V : Ct_V} {A : Nat → Nat} {q : Lq} {K : Kt} (C : Fx K (Zl V A q) cL_law RL 7 171) (hNW : ∀ w ∈ NWl, va_Nw w K.2.2.2.2.1) (hN : ∀ i, i < 30 → ∀ K2 : Kt, K = K2 → i < K2.2.2.2.2.2.2.2.2.2.2.1) (R : Lr K (Zl V A q)) {E2933 : ((Int32 × Int32 × Wd) ⊕ (Int32 × Wd)) → Prop} {t0_2928 : Int32} {v10_2928 : Int32} {v11_2928 : Int32} {v12_2928 : Int32} {v14_2928 : Int32} {v6_2928 : Int32} {v8_2928 : Int32} {v9_2928 : Int32} (hx2933 : ∀ x, E2933 (.inr x) → ∃ q0, (un2 fun x15_2933 sx_2933 => (M_L_law_J2971 q sx_2933 t0_2928 v6_2928 v8_2928 v9_2928 v10_2928 v12_2928 x15_2933)) x = some q0 ∧ (fun q : Int32 × Wd => q.1 = 1) q0) (hJ2971 : ∀ (σ_2971 : Wd) (v5_2971 : Int32) (v6_2971 : Int32) (v8_2971 : Int32) (v9_2971 : Int32) (v10_2971 : Int32) (v12_2971 : Int32) (v15_2971 : Int32), Y K (Zl V A q) (M_L_law_J2971 q σ_2971 v5_2971 v6_2971 v8_2971 v9_2971 v10_2971 v12_2971 v15_2971) (fun q : Int32 × Wd => q.1 = 1) σ_2971 2971 [(1, .ref (A 0)), (3, .ref (zA (Zl V A q) 0)), (4, .ref (A 1)), (5, .int v5_2971), (6, .int v6_2971), (8, .int v8_2971), (9, .int v9_2971), (10, .int v10_2971), (12, .int v12_2971), (15, .int v15_2971)] []) (hb2933 : ∀ s' : Int32 × Int32 × Wd, E2933 (.inl s') → Go K (Zl V A q) ((fun s : Int32 × Int32 × Wd => s.2.2) s') 2933 ((fun s : Int32 × Int32 × Wd => [(1, .ref (A 0)), (3, .ref (zA (Zl V A q) 0)), (4, .ref (A 1)), (5, .int t0_2928), (6, .int v6_2928), (8, .int v8_2928), (9, .int v9_2928), (10, .int v10_2928), (11, .int v11_2928), (12, .int v12_2928), (14, .int v14_2928), (15, .int s.1), (16, .int s.2.1)]) s') []) : ∀ (v15_2933 : Int32) (v16_2933 : Int32) (s_2933 : Wd), Y K (Zl V A q) (M_L_law_L2933 q t0_2928 v6_2928 v8_2928 v9_2928 v10_2928 v11_2928 v12_2928 v14_2928 v15_2933 v16_2933 s_2933) E2933 s_2933 2933 [(1, .ref (A 0)), (3, .ref (zA (Zl V A q) 0)), (4, .ref (A 1)), (5, .int t0_2928), (6, .int v6_2928), (8, .int v8_2928), (9, .int v9_2928), (10, .int v10_2928), (11, .int v11_2928), (12, .int v12_2928), (14, .int v14_2928), (15, .int v15_2933), (16, .int v16_2933)] [] := by
  intro v15_2933 v16_2933 s_2933
  unfold M_L_law_L2933
  refine x_iload C 2933 12 dL_law_2933 rfl ?_
  refine x_iload C 2935 4 dL_law_2935 rfl ?_
  refine x_icmp_ge C 2937 2971 dL_law_2937 (by decide) (fun _ => ?_) (fun _ => ?_)
  · refine x_ex2 hx2933 v15_2933 s_2933 ?_
    refine Y_sub [0, 1, 2, 3, 4, 5, 6, 7, 9, 11] rfl ?_
    exact hJ2971 _ _ _ _ _ _ _ _
  · refine x_iload C 2940 10 dL_law_2940 rfl ?_
    refine x_iload C 2942 12 dL_law_2942 rfl ?_
    refine x_ishr C 2944 dL_law_2944 ?_
    refine x_iconst C 2945 dL_law_2945 ki_1 ?_
    refine x_iand C 2946 dL_law_2946 ?_
    refine x_iconst C 2947 dL_law_2947 ki_1 ?_
    refine x_icmp_ne C 2948 2965 dL_law_2948 (by decide) (fun _ => ?_) (fun _ => ?_)
    · refine x_iinct C 2965 12 (1 : Int32) (fun v16_2965 => [(16, .int v16_2965), (1, .ref (A 0)), (3, .ref (zA (Zl V A q) 0)), (4, .ref (A 1)), (5, .int t0_2928), (6, .int v6_2928), (8, .int v8_2928), (9, .int v9_2928), (10, .int v10_2928), (11, .int v11_2928), (12, .int v12_2928), (14, .int v14_2928), (15, .int v15_2933)]) dL_law_2965 rfl ki_1 (hN _ (Nat.le_of_ble_eq_true rfl)) (fun _ => rfl) (fun v16_2965 => ?_)
      refine x_goto C 2968 2933 dL_law_2968 (by decide) ?_
      refine Y_sub [1, 2, 3, 4, 5, 6, 7, 8, 9, 10, 11, 12, 0] rfl ?_
      exact x_back (v15_2933, v16_2965, s_2933) (hb2933 (v15_2933, v16_2965, s_2933))
    · refine x_aload_n C 2951 1 dL_law_2951 rfl ?_
      refine x_iload C 2952 8 dL_law_2952 rfl ?_
      refine x_iload C 2954 12 dL_law_2954 rfl ?_
      refine Y_bnd2 (fun r2956 s_2956 h2956 => ?_)
      refine x_callLV C 2956 [.int v11_2928, .int v16_2933] [] rfl tw_804 mv_X8_meet rfl (Nat.le_of_ble_eq_true rfl) (Nat.le_of_ble_eq_true rfl) (Nat.le_of_ble_eq_true rfl) dL_law_2956 (c_X8_meet V _ _ _ _ h2956) ?_
      refine x_if_lt C 2959 2965 dL_law_2959 (by decide) (fun _ => ?_) (fun _ => ?_)
      · refine x_iinct C 2965 12 (1 : Int32) (fun v16_2965 => [(16, .int v16_2965), (1, .ref (A 0)), (3, .ref (zA (Zl V A q) 0)), (4, .ref (A 1)), (5, .int t0_2928), (6, .int v6_2928), (8, .int v8_2928), (9, .int v9_2928), (10, .int v10_2928), (11, .int v11_2928), (12, .int v12_2928), (14, .int v14_2928), (15, .int v15_2933)]) dL_law_2965 rfl ki_1 (hN _ (Nat.le_of_ble_eq_true rfl)) (fun _ => rfl) (fun v16_2965 => ?_)
        refine x_goto C 2968 2933 dL_law_2968 (by decide) ?_
        refine Y_sub [1, 2, 3, 4, 5, 6, 7, 8, 9, 10, 11, 12, 0] rfl ?_
        exact x_back (v15_2933, v16_2965, s_2956) (hb2933 (v15_2933, v16_2965, s_2956))
      · refine x_iinct C 2962 11 (1 : Int32) (fun v15_2962 => [(15, .int v15_2962), (1, .ref (A 0)), (3, .ref (zA (Zl V A q) 0)), (4, .ref (A 1)), (5, .int t0_2928), (6, .int v6_2928), (8, .int v8_2928), (9, .int v9_2928), (10, .int v10_2928), (11, .int v11_2928), (12, .int v12_2928), (14, .int v14_2928), (16, .int v16_2933)]) dL_law_2962 rfl ki_1 (hN _ (Nat.le_of_ble_eq_true rfl)) (fun _ => rfl) (fun v15_2962 => ?_)
        refine x_iinct C 2965 12 (1 : Int32) (fun v16_2965 => [(16, .int v16_2965), (15, .int v15_2962), (1, .ref (A 0)), (3, .ref (zA (Zl V A q) 0)), (4, .ref (A 1)), (5, .int t0_2928), (6, .int v6_2928), (8, .int v8_2928), (9, .int v9_2928), (10, .int v10_2928), (11, .int v11_2928), (12, .int v12_2928), (14, .int v14_2928)]) dL_law_2965 rfl ki_1 (hN _ (Nat.le_of_ble_eq_true rfl)) (fun _ => rfl) (fun v16_2965 => ?_)
        refine x_goto C 2968 2933 dL_law_2968 (by decide) ?_
        refine Y_sub [2, 3, 4, 5, 6, 7, 8, 9, 10, 11, 12, 1, 0] rfl ?_
        exact x_back (v15_2962, v16_2965, s_2956) (hb2933 (v15_2962, v16_2965, s_2956))
set_option maxRecDepth 100000 in
set_option maxHeartbeats 40000000 in
theorem c_LJ2928 {V : Ct_V} {A : Nat → Nat} {q : Lq} {K : Kt} (C : Fx K (Zl V A q) cL_law RL 7 171) (hNW : ∀ w ∈ NWl, va_Nw w K.2.2.2.2.1) (hN : ∀ i, i < 30 → ∀ K2 : Kt, K = K2 → i < K2.2.2.2.2.2.2.2.2.2.2.1) (R : Lr K (Zl V A q))   : ∀ (σ_2928 : Wd) (v6_2928 : Int32) (v8_2928 : Int32) (v9_2928 : Int32) (v10_2928 : Int32) (v11_2928 : Int32) (v12_2928 : Int32) (v14_2928 : Int32) (v15_2928 : Int32) (t0_2928 : Int32), Y K (Zl V A q) (M_L_law_J2928 q σ_2928 v6_2928 v8_2928 v9_2928 v10_2928 v11_2928 v12_2928 v14_2928 v15_2928 t0_2928) (fun q : Int32 × Wd => q.1 = 1) σ_2928 2928 [(1, .ref (A 0)), (3, .ref (zA (Zl V A q) 0)), (4, .ref (A 1)), (6, .int v6_2928), (8, .int v8_2928), (9, .int v9_2928), (10, .int v10_2928), (11, .int v11_2928), (12, .int v12_2928), (14, .int v14_2928), (15, .int v15_2928)] [.int t0_2928] := by
  intro σ_2928 v6_2928 v8_2928 v9_2928 v10_2928 v11_2928 v12_2928 v14_2928 v15_2928 t0_2928
  unfold M_L_law_J2928
  refine x_istore C 2928 (L' := [(5, .int t0_2928), (1, .ref (A 0)), (3, .ref (zA (Zl V A q) 0)), (4, .ref (A 1)), (6, .int v6_2928), (8, .int v8_2928), (9, .int v9_2928), (10, .int v10_2928), (11, .int v11_2928), (12, .int v12_2928), (14, .int v14_2928), (15, .int v15_2928)]) dL_law_2928 (hN _ (Nat.le_of_ble_eq_true rfl)) rfl ?_
  refine x_iconst C 2930 dL_law_2930 ki_0 ?_
  refine x_istore C 2931 (L' := [(16, .int (0 : Int32)), (5, .int t0_2928), (1, .ref (A 0)), (3, .ref (zA (Zl V A q) 0)), (4, .ref (A 1)), (6, .int v6_2928), (8, .int v8_2928), (9, .int v9_2928), (10, .int v10_2928), (11, .int v11_2928), (12, .int v12_2928), (14, .int v14_2928), (15, .int v15_2928)]) dL_law_2931 (hN _ (Nat.le_of_ble_eq_true rfl)) rfl ?_
  have hJ2971 : ∀ (σ_2971 : Wd) (v5_2971 : Int32) (v6_2971 : Int32) (v8_2971 : Int32) (v9_2971 : Int32) (v10_2971 : Int32) (v12_2971 : Int32) (v15_2971 : Int32), Y K (Zl V A q) (M_L_law_J2971 q σ_2971 v5_2971 v6_2971 v8_2971 v9_2971 v10_2971 v12_2971 v15_2971) (fun q : Int32 × Wd => q.1 = 1) σ_2971 2971 [(1, .ref (A 0)), (3, .ref (zA (Zl V A q) 0)), (4, .ref (A 1)), (5, .int v5_2971), (6, .int v6_2971), (8, .int v8_2971), (9, .int v9_2971), (10, .int v10_2971), (12, .int v12_2971), (15, .int v15_2971)] [] := c_LJ2971 C hNW hN R 
  refine Y_sub [2, 3, 4, 1, 5, 6, 7, 8, 9, 10, 11, 12, 0] rfl ?_
  refine x_loop 2933 (fun s : Int32 × Int32 × Wd => s.2.2) (fun s : Int32 × Int32 × Wd => [(1, .ref (A 0)), (3, .ref (zA (Zl V A q) 0)), (4, .ref (A 1)), (5, .int t0_2928), (6, .int v6_2928), (8, .int v8_2928), (9, .int v9_2928), (10, .int v10_2928), (11, .int v11_2928), (12, .int v12_2928), (14, .int v14_2928), (15, .int s.1), (16, .int s.2.1)]) (fun E2933 hb2933 hx2933 s => ?_) FU (v15_2928, (0 : Int32), σ_2928)
  obtain ⟨v15_2933, v16_2933, s_2933⟩ := s
  exact c_LL2933 C hNW hN R hx2933 hJ2971 hb2933 v15_2933 v16_2933 s_2933
set_option maxRecDepth 100000 in
set_option maxHeartbeats 40000000 in
theorem c_LJ2927 {V : Ct_V} {A : Nat → Nat} {q : Lq} {K : Kt} (C : Fx K (Zl V A q) cL_law RL 7 171) (hNW : ∀ w ∈ NWl, va_Nw w K.2.2.2.2.1) (hN : ∀ i, i < 30 → ∀ K2 : Kt, K = K2 → i < K2.2.2.2.2.2.2.2.2.2.2.1) (R : Lr K (Zl V A q))  (hJ2928 : ∀ (σ_2928 : Wd) (v6_2928 : Int32) (v8_2928 : Int32) (v9_2928 : Int32) (v10_2928 : Int32) (v11_2928 : Int32) (v12_2928 : Int32) (v14_2928 : Int32) (v15_2928 : Int32) (t0_2928 : Int32), Y K (Zl V A q) (M_L_law_J2928 q σ_2928 v6_2928 v8_2928 v9_2928 v10_2928 v11_2928 v12_2928 v14_2928 v15_2928 t0_2928) (fun q : Int32 × Wd => q.1 = 1) σ_2928 2928 [(1, .ref (A 0)), (3, .ref (zA (Zl V A q) 0)), (4, .ref (A 1)), (6, .int v6_2928), (8, .int v8_2928), (9, .int v9_2928), (10, .int v10_2928), (11, .int v11_2928), (12, .int v12_2928), (14, .int v14_2928), (15, .int v15_2928)] [.int t0_2928]) : ∀ (σ_2927 : Wd) (v6_2927 : Int32) (v8_2927 : Int32) (v9_2927 : Int32) (v10_2927 : Int32) (v11_2927 : Int32) (v12_2927 : Int32) (v14_2927 : Int32) (v15_2927 : Int32), Y K (Zl V A q) (M_L_law_J2927 q σ_2927 v6_2927 v8_2927 v9_2927 v10_2927 v11_2927 v12_2927 v14_2927 v15_2927) (fun q : Int32 × Wd => q.1 = 1) σ_2927 2927 [(1, .ref (A 0)), (3, .ref (zA (Zl V A q) 0)), (4, .ref (A 1)), (6, .int v6_2927), (8, .int v8_2927), (9, .int v9_2927), (10, .int v10_2927), (11, .int v11_2927), (12, .int v12_2927), (14, .int v14_2927), (15, .int v15_2927)] [] := by
  intro σ_2927 v6_2927 v8_2927 v9_2927 v10_2927 v11_2927 v12_2927 v14_2927 v15_2927
  unfold M_L_law_J2927
  refine x_iconst C 2927 dL_law_2927 ki_0 ?_
  exact hJ2928 _ _ _ _ _ _ _ _ _ _
set_option maxRecDepth 100000 in
set_option maxHeartbeats 40000000 in
theorem c_LJ2906 {V : Ct_V} {A : Nat → Nat} {q : Lq} {K : Kt} (C : Fx K (Zl V A q) cL_law RL 7 171) (hNW : ∀ w ∈ NWl, va_Nw w K.2.2.2.2.1) (hN : ∀ i, i < 30 → ∀ K2 : Kt, K = K2 → i < K2.2.2.2.2.2.2.2.2.2.2.1) (R : Lr K (Zl V A q))   : ∀ (σ_2906 : Wd) (v5_2906 : Int32) (v6_2906 : Int32) (v8_2906 : Int32) (v9_2906 : Int32) (v10_2906 : Int32) (v11_2906 : Int32) (v12_2906 : Int32) (v14_2906 : Int32) (v15_2906 : Int32), Y K (Zl V A q) (M_L_law_J2906 q σ_2906 v5_2906 v6_2906 v8_2906 v9_2906 v10_2906 v11_2906 v12_2906 v14_2906 v15_2906) (fun q : Int32 × Wd => q.1 = 1) σ_2906 2906 [(1, .ref (A 0)), (3, .ref (zA (Zl V A q) 0)), (4, .ref (A 1)), (5, .int v5_2906), (6, .int v6_2906), (8, .int v8_2906), (9, .int v9_2906), (10, .int v10_2906), (11, .int v11_2906), (12, .int v12_2906), (14, .int v14_2906), (15, .int v15_2906)] [] := by
  intro σ_2906 v5_2906 v6_2906 v8_2906 v9_2906 v10_2906 v11_2906 v12_2906 v14_2906 v15_2906
  unfold M_L_law_J2906
  refine x_iload C 2906 3 dL_law_2906 rfl ?_
  have hJ2928 : ∀ (σ_2928 : Wd) (v6_2928 : Int32) (v8_2928 : Int32) (v9_2928 : Int32) (v10_2928 : Int32) (v11_2928 : Int32) (v12_2928 : Int32) (v14_2928 : Int32) (v15_2928 : Int32) (t0_2928 : Int32), Y K (Zl V A q) (M_L_law_J2928 q σ_2928 v6_2928 v8_2928 v9_2928 v10_2928 v11_2928 v12_2928 v14_2928 v15_2928 t0_2928) (fun q : Int32 × Wd => q.1 = 1) σ_2928 2928 [(1, .ref (A 0)), (3, .ref (zA (Zl V A q) 0)), (4, .ref (A 1)), (6, .int v6_2928), (8, .int v8_2928), (9, .int v9_2928), (10, .int v10_2928), (11, .int v11_2928), (12, .int v12_2928), (14, .int v14_2928), (15, .int v15_2928)] [.int t0_2928] := c_LJ2928 C hNW hN R 
  have hJ2927 : ∀ (σ_2927 : Wd) (v6_2927 : Int32) (v8_2927 : Int32) (v9_2927 : Int32) (v10_2927 : Int32) (v11_2927 : Int32) (v12_2927 : Int32) (v14_2927 : Int32) (v15_2927 : Int32), Y K (Zl V A q) (M_L_law_J2927 q σ_2927 v6_2927 v8_2927 v9_2927 v10_2927 v11_2927 v12_2927 v14_2927 v15_2927) (fun q : Int32 × Wd => q.1 = 1) σ_2927 2927 [(1, .ref (A 0)), (3, .ref (zA (Zl V A q) 0)), (4, .ref (A 1)), (6, .int v6_2927), (8, .int v8_2927), (9, .int v9_2927), (10, .int v10_2927), (11, .int v11_2927), (12, .int v12_2927), (14, .int v14_2927), (15, .int v15_2927)] [] := c_LJ2927 C hNW hN R hJ2928
  refine x_if_eq C 2908 2927 dL_law_2908 (by decide) (fun _ => ?_) (fun _ => ?_)
  · refine Y_sub [0, 1, 2, 4, 5, 6, 7, 8, 9, 10, 11] rfl ?_
    exact hJ2927 _ _ _ _ _ _ _ _ _
  · refine x_aload_n C 2911 1 dL_law_2911 rfl ?_
    refine x_iload C 2912 8 dL_law_2912 rfl ?_
    refine x_iconst C 2914 dL_law_2914 ki_1 ?_
    refine Y_bnd2 (fun r2915 s_2915 h2915 => ?_)
    refine x_callLV C 2915 [.int v11_2906, .int (1 : Int32)] [] rfl tw_917 mv_X8_copy rfl (Nat.le_of_ble_eq_true rfl) (Nat.le_of_ble_eq_true rfl) (Nat.le_of_ble_eq_true rfl) dL_law_2915 (c_X8_copy V _ _ _ _ h2915) ?_
    refine x_iload C 2918 5 dL_law_2918 rfl ?_
    refine x_icmp_ne C 2920 2927 dL_law_2920 (by decide) (fun _ => ?_) (fun _ => ?_)
    · refine Y_sub [0, 1, 2, 4, 5, 6, 7, 8, 9, 10, 11] rfl ?_
      exact hJ2927 _ _ _ _ _ _ _ _ _
    · refine x_iconst C 2923 dL_law_2923 ki_1 ?_
      refine x_goto C 2924 2928 dL_law_2924 (by decide) ?_
      refine Y_sub [0, 1, 2, 4, 5, 6, 7, 8, 9, 10, 11] rfl ?_
      exact hJ2928 _ _ _ _ _ _ _ _ _ _
set_option maxRecDepth 100000 in
set_option maxHeartbeats 40000000 in
theorem c_LL2868 {V : Ct_V} {A : Nat → Nat} {q : Lq} {K : Kt} (C : Fx K (Zl V A q) cL_law RL 7 171) (hNW : ∀ w ∈ NWl, va_Nw w K.2.2.2.2.1) (hN : ∀ i, i < 30 → ∀ K2 : Kt, K = K2 → i < K2.2.2.2.2.2.2.2.2.2.2.1) (R : Lr K (Zl V A q)) {E2868 : ((Int32 × Int32 × Wd) ⊕ (Int32 × Wd)) → Prop} {t0_2860 : Int32} {v10_2860 : Int32} {v11_2860 : Int32} {v12_2860 : Int32} {v13_2860 : Int32} {v14_2860 : Int32} {v6_2860 : Int32} {v8_2860 : Int32} {v9_2860 : Int32} (hx2868 : ∀ x, E2868 (.inr x) → ∃ q0, (un2 fun x15_2868 sx_2868 => (M_L_law_J2906 q sx_2868 t0_2860 v6_2860 v8_2860 v9_2860 v10_2860 v11_2860 v12_2860 v14_2860 x15_2868)) x = some q0 ∧ (fun q : Int32 × Wd => q.1 = 1) q0) (hJ2906 : ∀ (σ_2906 : Wd) (v5_2906 : Int32) (v6_2906 : Int32) (v8_2906 : Int32) (v9_2906 : Int32) (v10_2906 : Int32) (v11_2906 : Int32) (v12_2906 : Int32) (v14_2906 : Int32) (v15_2906 : Int32), Y K (Zl V A q) (M_L_law_J2906 q σ_2906 v5_2906 v6_2906 v8_2906 v9_2906 v10_2906 v11_2906 v12_2906 v14_2906 v15_2906) (fun q : Int32 × Wd => q.1 = 1) σ_2906 2906 [(1, .ref (A 0)), (3, .ref (zA (Zl V A q) 0)), (4, .ref (A 1)), (5, .int v5_2906), (6, .int v6_2906), (8, .int v8_2906), (9, .int v9_2906), (10, .int v10_2906), (11, .int v11_2906), (12, .int v12_2906), (14, .int v14_2906), (15, .int v15_2906)] []) (hb2868 : ∀ s' : Int32 × Int32 × Wd, E2868 (.inl s') → Go K (Zl V A q) ((fun s : Int32 × Int32 × Wd => s.2.2) s') 2868 ((fun s : Int32 × Int32 × Wd => [(1, .ref (A 0)), (3, .ref (zA (Zl V A q) 0)), (4, .ref (A 1)), (5, .int t0_2860), (6, .int v6_2860), (8, .int v8_2860), (9, .int v9_2860), (10, .int v10_2860), (11, .int v11_2860), (12, .int v12_2860), (13, .int v13_2860), (14, .int v14_2860), (15, .int s.1), (16, .int s.2.1)]) s') []) : ∀ (v15_2868 : Int32) (v16_2868 : Int32) (s_2868 : Wd), Y K (Zl V A q) (M_L_law_L2868 q t0_2860 v6_2860 v8_2860 v9_2860 v10_2860 v11_2860 v12_2860 v13_2860 v14_2860 v15_2868 v16_2868 s_2868) E2868 s_2868 2868 [(1, .ref (A 0)), (3, .ref (zA (Zl V A q) 0)), (4, .ref (A 1)), (5, .int t0_2860), (6, .int v6_2860), (8, .int v8_2860), (9, .int v9_2860), (10, .int v10_2860), (11, .int v11_2860), (12, .int v12_2860), (13, .int v13_2860), (14, .int v14_2860), (15, .int v15_2868), (16, .int v16_2868)] [] := by
  intro v15_2868 v16_2868 s_2868
  unfold M_L_law_L2868
  refine x_iload C 2868 13 dL_law_2868 rfl ?_
  refine x_iload C 2870 4 dL_law_2870 rfl ?_
  refine x_icmp_ge C 2872 2906 dL_law_2872 (by decide) (fun _ => ?_) (fun _ => ?_)
  · refine x_ex2 hx2868 v15_2868 s_2868 ?_
    refine Y_sub [0, 1, 2, 3, 4, 5, 6, 7, 8, 9, 11, 12] rfl ?_
    exact hJ2906 _ _ _ _ _ _ _ _ _ _
  · refine x_iload C 2875 10 dL_law_2875 rfl ?_
    refine x_iload C 2877 13 dL_law_2877 rfl ?_
    refine x_ishr C 2879 dL_law_2879 ?_
    refine x_iconst C 2880 dL_law_2880 ki_1 ?_
    refine x_iand C 2881 dL_law_2881 ?_
    refine x_iconst C 2882 dL_law_2882 ki_1 ?_
    refine x_icmp_ne C 2883 2900 dL_law_2883 (by decide) (fun _ => ?_) (fun _ => ?_)
    · refine x_iinct C 2900 13 (1 : Int32) (fun v16_2900 => [(16, .int v16_2900), (1, .ref (A 0)), (3, .ref (zA (Zl V A q) 0)), (4, .ref (A 1)), (5, .int t0_2860), (6, .int v6_2860), (8, .int v8_2860), (9, .int v9_2860), (10, .int v10_2860), (11, .int v11_2860), (12, .int v12_2860), (13, .int v13_2860), (14, .int v14_2860), (15, .int v15_2868)]) dL_law_2900 rfl ki_1 (hN _ (Nat.le_of_ble_eq_true rfl)) (fun _ => rfl) (fun v16_2900 => ?_)
      refine x_goto C 2903 2868 dL_law_2903 (by decide) ?_
      refine Y_sub [1, 2, 3, 4, 5, 6, 7, 8, 9, 10, 11, 12, 13, 0] rfl ?_
      exact x_back (v15_2868, v16_2900, s_2868) (hb2868 (v15_2868, v16_2900, s_2868))
    · refine x_aload_n C 2886 1 dL_law_2886 rfl ?_
      refine x_iload C 2887 13 dL_law_2887 rfl ?_
      refine x_iload C 2889 8 dL_law_2889 rfl ?_
      refine Y_bnd2 (fun r2891 s_2891 h2891 => ?_)
      refine x_callLV C 2891 [.int v16_2868, .int v11_2860] [] rfl tw_804 mv_X8_meet rfl (Nat.le_of_ble_eq_true rfl) (Nat.le_of_ble_eq_true rfl) (Nat.le_of_ble_eq_true rfl) dL_law_2891 (c_X8_meet V _ _ _ _ h2891) ?_
      refine x_if_lt C 2894 2900 dL_law_2894 (by decide) (fun _ => ?_) (fun _ => ?_)
      · refine x_iinct C 2900 13 (1 : Int32) (fun v16_2900 => [(16, .int v16_2900), (1, .ref (A 0)), (3, .ref (zA (Zl V A q) 0)), (4, .ref (A 1)), (5, .int t0_2860), (6, .int v6_2860), (8, .int v8_2860), (9, .int v9_2860), (10, .int v10_2860), (11, .int v11_2860), (12, .int v12_2860), (13, .int v13_2860), (14, .int v14_2860), (15, .int v15_2868)]) dL_law_2900 rfl ki_1 (hN _ (Nat.le_of_ble_eq_true rfl)) (fun _ => rfl) (fun v16_2900 => ?_)
        refine x_goto C 2903 2868 dL_law_2903 (by decide) ?_
        refine Y_sub [1, 2, 3, 4, 5, 6, 7, 8, 9, 10, 11, 12, 13, 0] rfl ?_
        exact x_back (v15_2868, v16_2900, s_2891) (hb2868 (v15_2868, v16_2900, s_2891))
      · refine x_iinct C 2897 12 (1 : Int32) (fun v15_2897 => [(15, .int v15_2897), (1, .ref (A 0)), (3, .ref (zA (Zl V A q) 0)), (4, .ref (A 1)), (5, .int t0_2860), (6, .int v6_2860), (8, .int v8_2860), (9, .int v9_2860), (10, .int v10_2860), (11, .int v11_2860), (12, .int v12_2860), (13, .int v13_2860), (14, .int v14_2860), (16, .int v16_2868)]) dL_law_2897 rfl ki_1 (hN _ (Nat.le_of_ble_eq_true rfl)) (fun _ => rfl) (fun v15_2897 => ?_)
        refine x_iinct C 2900 13 (1 : Int32) (fun v16_2900 => [(16, .int v16_2900), (15, .int v15_2897), (1, .ref (A 0)), (3, .ref (zA (Zl V A q) 0)), (4, .ref (A 1)), (5, .int t0_2860), (6, .int v6_2860), (8, .int v8_2860), (9, .int v9_2860), (10, .int v10_2860), (11, .int v11_2860), (12, .int v12_2860), (13, .int v13_2860), (14, .int v14_2860)]) dL_law_2900 rfl ki_1 (hN _ (Nat.le_of_ble_eq_true rfl)) (fun _ => rfl) (fun v16_2900 => ?_)
        refine x_goto C 2903 2868 dL_law_2903 (by decide) ?_
        refine Y_sub [2, 3, 4, 5, 6, 7, 8, 9, 10, 11, 12, 13, 1, 0] rfl ?_
        exact x_back (v15_2897, v16_2900, s_2891) (hb2868 (v15_2897, v16_2900, s_2891))
set_option maxRecDepth 100000 in
set_option maxHeartbeats 40000000 in
theorem c_LJ2860 {V : Ct_V} {A : Nat → Nat} {q : Lq} {K : Kt} (C : Fx K (Zl V A q) cL_law RL 7 171) (hNW : ∀ w ∈ NWl, va_Nw w K.2.2.2.2.1) (hN : ∀ i, i < 30 → ∀ K2 : Kt, K = K2 → i < K2.2.2.2.2.2.2.2.2.2.2.1) (R : Lr K (Zl V A q))   : ∀ (σ_2860 : Wd) (v6_2860 : Int32) (v8_2860 : Int32) (v9_2860 : Int32) (v10_2860 : Int32) (v11_2860 : Int32) (v12_2860 : Int32) (v13_2860 : Int32) (v14_2860 : Int32) (t0_2860 : Int32), Y K (Zl V A q) (M_L_law_J2860 q σ_2860 v6_2860 v8_2860 v9_2860 v10_2860 v11_2860 v12_2860 v13_2860 v14_2860 t0_2860) (fun q : Int32 × Wd => q.1 = 1) σ_2860 2860 [(1, .ref (A 0)), (3, .ref (zA (Zl V A q) 0)), (4, .ref (A 1)), (6, .int v6_2860), (8, .int v8_2860), (9, .int v9_2860), (10, .int v10_2860), (11, .int v11_2860), (12, .int v12_2860), (13, .int v13_2860), (14, .int v14_2860)] [.int t0_2860] := by
  intro σ_2860 v6_2860 v8_2860 v9_2860 v10_2860 v11_2860 v12_2860 v13_2860 v14_2860 t0_2860
  unfold M_L_law_J2860
  refine x_istore C 2860 (L' := [(5, .int t0_2860), (1, .ref (A 0)), (3, .ref (zA (Zl V A q) 0)), (4, .ref (A 1)), (6, .int v6_2860), (8, .int v8_2860), (9, .int v9_2860), (10, .int v10_2860), (11, .int v11_2860), (12, .int v12_2860), (13, .int v13_2860), (14, .int v14_2860)]) dL_law_2860 (hN _ (Nat.le_of_ble_eq_true rfl)) rfl ?_
  refine x_iconst C 2862 dL_law_2862 ki_0 ?_
  refine x_istore C 2863 (L' := [(15, .int (0 : Int32)), (5, .int t0_2860), (1, .ref (A 0)), (3, .ref (zA (Zl V A q) 0)), (4, .ref (A 1)), (6, .int v6_2860), (8, .int v8_2860), (9, .int v9_2860), (10, .int v10_2860), (11, .int v11_2860), (12, .int v12_2860), (13, .int v13_2860), (14, .int v14_2860)]) dL_law_2863 (hN _ (Nat.le_of_ble_eq_true rfl)) rfl ?_
  refine x_iconst C 2865 dL_law_2865 ki_0 ?_
  refine x_istore C 2866 (L' := [(16, .int (0 : Int32)), (15, .int (0 : Int32)), (5, .int t0_2860), (1, .ref (A 0)), (3, .ref (zA (Zl V A q) 0)), (4, .ref (A 1)), (6, .int v6_2860), (8, .int v8_2860), (9, .int v9_2860), (10, .int v10_2860), (11, .int v11_2860), (12, .int v12_2860), (13, .int v13_2860), (14, .int v14_2860)]) dL_law_2866 (hN _ (Nat.le_of_ble_eq_true rfl)) rfl ?_
  have hJ2906 : ∀ (σ_2906 : Wd) (v5_2906 : Int32) (v6_2906 : Int32) (v8_2906 : Int32) (v9_2906 : Int32) (v10_2906 : Int32) (v11_2906 : Int32) (v12_2906 : Int32) (v14_2906 : Int32) (v15_2906 : Int32), Y K (Zl V A q) (M_L_law_J2906 q σ_2906 v5_2906 v6_2906 v8_2906 v9_2906 v10_2906 v11_2906 v12_2906 v14_2906 v15_2906) (fun q : Int32 × Wd => q.1 = 1) σ_2906 2906 [(1, .ref (A 0)), (3, .ref (zA (Zl V A q) 0)), (4, .ref (A 1)), (5, .int v5_2906), (6, .int v6_2906), (8, .int v8_2906), (9, .int v9_2906), (10, .int v10_2906), (11, .int v11_2906), (12, .int v12_2906), (14, .int v14_2906), (15, .int v15_2906)] [] := c_LJ2906 C hNW hN R 
  refine Y_sub [3, 4, 5, 2, 6, 7, 8, 9, 10, 11, 12, 13, 1, 0] rfl ?_
  refine x_loop 2868 (fun s : Int32 × Int32 × Wd => s.2.2) (fun s : Int32 × Int32 × Wd => [(1, .ref (A 0)), (3, .ref (zA (Zl V A q) 0)), (4, .ref (A 1)), (5, .int t0_2860), (6, .int v6_2860), (8, .int v8_2860), (9, .int v9_2860), (10, .int v10_2860), (11, .int v11_2860), (12, .int v12_2860), (13, .int v13_2860), (14, .int v14_2860), (15, .int s.1), (16, .int s.2.1)]) (fun E2868 hb2868 hx2868 s => ?_) FU ((0 : Int32), (0 : Int32), σ_2860)
  obtain ⟨v15_2868, v16_2868, s_2868⟩ := s
  exact c_LL2868 C hNW hN R hx2868 hJ2906 hb2868 v15_2868 v16_2868 s_2868
set_option maxRecDepth 100000 in
set_option maxHeartbeats 40000000 in
theorem c_LJ2859 {V : Ct_V} {A : Nat → Nat} {q : Lq} {K : Kt} (C : Fx K (Zl V A q) cL_law RL 7 171) (hNW : ∀ w ∈ NWl, va_Nw w K.2.2.2.2.1) (hN : ∀ i, i < 30 → ∀ K2 : Kt, K = K2 → i < K2.2.2.2.2.2.2.2.2.2.2.1) (R : Lr K (Zl V A q))  (hJ2860 : ∀ (σ_2860 : Wd) (v6_2860 : Int32) (v8_2860 : Int32) (v9_2860 : Int32) (v10_2860 : Int32) (v11_2860 : Int32) (v12_2860 : Int32) (v13_2860 : Int32) (v14_2860 : Int32) (t0_2860 : Int32), Y K (Zl V A q) (M_L_law_J2860 q σ_2860 v6_2860 v8_2860 v9_2860 v10_2860 v11_2860 v12_2860 v13_2860 v14_2860 t0_2860) (fun q : Int32 × Wd => q.1 = 1) σ_2860 2860 [(1, .ref (A 0)), (3, .ref (zA (Zl V A q) 0)), (4, .ref (A 1)), (6, .int v6_2860), (8, .int v8_2860), (9, .int v9_2860), (10, .int v10_2860), (11, .int v11_2860), (12, .int v12_2860), (13, .int v13_2860), (14, .int v14_2860)] [.int t0_2860]) : ∀ (σ_2859 : Wd) (v6_2859 : Int32) (v8_2859 : Int32) (v9_2859 : Int32) (v10_2859 : Int32) (v11_2859 : Int32) (v12_2859 : Int32) (v13_2859 : Int32) (v14_2859 : Int32), Y K (Zl V A q) (M_L_law_J2859 q σ_2859 v6_2859 v8_2859 v9_2859 v10_2859 v11_2859 v12_2859 v13_2859 v14_2859) (fun q : Int32 × Wd => q.1 = 1) σ_2859 2859 [(1, .ref (A 0)), (3, .ref (zA (Zl V A q) 0)), (4, .ref (A 1)), (6, .int v6_2859), (8, .int v8_2859), (9, .int v9_2859), (10, .int v10_2859), (11, .int v11_2859), (12, .int v12_2859), (13, .int v13_2859), (14, .int v14_2859)] [] := by
  intro σ_2859 v6_2859 v8_2859 v9_2859 v10_2859 v11_2859 v12_2859 v13_2859 v14_2859
  unfold M_L_law_J2859
  refine x_iconst C 2859 dL_law_2859 ki_0 ?_
  exact hJ2860 _ _ _ _ _ _ _ _ _ _
set_option maxRecDepth 100000 in
set_option maxHeartbeats 40000000 in
theorem c_LJ2852 {V : Ct_V} {A : Nat → Nat} {q : Lq} {K : Kt} (C : Fx K (Zl V A q) cL_law RL 7 171) (hNW : ∀ w ∈ NWl, va_Nw w K.2.2.2.2.1) (hN : ∀ i, i < 30 → ∀ K2 : Kt, K = K2 → i < K2.2.2.2.2.2.2.2.2.2.2.1) (R : Lr K (Zl V A q))  (hJ2859 : ∀ (σ_2859 : Wd) (v6_2859 : Int32) (v8_2859 : Int32) (v9_2859 : Int32) (v10_2859 : Int32) (v11_2859 : Int32) (v12_2859 : Int32) (v13_2859 : Int32) (v14_2859 : Int32), Y K (Zl V A q) (M_L_law_J2859 q σ_2859 v6_2859 v8_2859 v9_2859 v10_2859 v11_2859 v12_2859 v13_2859 v14_2859) (fun q : Int32 × Wd => q.1 = 1) σ_2859 2859 [(1, .ref (A 0)), (3, .ref (zA (Zl V A q) 0)), (4, .ref (A 1)), (6, .int v6_2859), (8, .int v8_2859), (9, .int v9_2859), (10, .int v10_2859), (11, .int v11_2859), (12, .int v12_2859), (13, .int v13_2859), (14, .int v14_2859)] []) (hJ2860 : ∀ (σ_2860 : Wd) (v6_2860 : Int32) (v8_2860 : Int32) (v9_2860 : Int32) (v10_2860 : Int32) (v11_2860 : Int32) (v12_2860 : Int32) (v13_2860 : Int32) (v14_2860 : Int32) (t0_2860 : Int32), Y K (Zl V A q) (M_L_law_J2860 q σ_2860 v6_2860 v8_2860 v9_2860 v10_2860 v11_2860 v12_2860 v13_2860 v14_2860 t0_2860) (fun q : Int32 × Wd => q.1 = 1) σ_2860 2860 [(1, .ref (A 0)), (3, .ref (zA (Zl V A q) 0)), (4, .ref (A 1)), (6, .int v6_2860), (8, .int v8_2860), (9, .int v9_2860), (10, .int v10_2860), (11, .int v11_2860), (12, .int v12_2860), (13, .int v13_2860), (14, .int v14_2860)] [.int t0_2860]) : ∀ (σ_2852 : Wd) (v6_2852 : Int32) (v8_2852 : Int32) (v9_2852 : Int32) (v10_2852 : Int32) (v11_2852 : Int32) (v12_2852 : Int32) (v13_2852 : Int32) (v14_2852 : Int32) (t0_2852 : Int32) (t1_2852 : Int32), Y K (Zl V A q) (M_L_law_J2852 q σ_2852 v6_2852 v8_2852 v9_2852 v10_2852 v11_2852 v12_2852 v13_2852 v14_2852 t0_2852 t1_2852) (fun q : Int32 × Wd => q.1 = 1) σ_2852 2852 [(1, .ref (A 0)), (3, .ref (zA (Zl V A q) 0)), (4, .ref (A 1)), (6, .int v6_2852), (8, .int v8_2852), (9, .int v9_2852), (10, .int v10_2852), (11, .int v11_2852), (12, .int v12_2852), (13, .int v13_2852), (14, .int v14_2852)] [.int t0_2852, .int t1_2852] := by
  intro σ_2852 v6_2852 v8_2852 v9_2852 v10_2852 v11_2852 v12_2852 v13_2852 v14_2852 t0_2852 t1_2852
  unfold M_L_law_J2852
  refine x_icmp_ne C 2852 2859 dL_law_2852 (by decide) (fun _ => ?_) (fun _ => ?_)
  · exact hJ2859 _ _ _ _ _ _ _ _ _
  · refine x_iconst C 2855 dL_law_2855 ki_1 ?_
    refine x_goto C 2856 2860 dL_law_2856 (by decide) ?_
    exact hJ2860 _ _ _ _ _ _ _ _ _ _
set_option maxRecDepth 100000 in
set_option maxHeartbeats 40000000 in
theorem c_LJ2837 {V : Ct_V} {A : Nat → Nat} {q : Lq} {K : Kt} (C : Fx K (Zl V A q) cL_law RL 7 171) (hNW : ∀ w ∈ NWl, va_Nw w K.2.2.2.2.1) (hN : ∀ i, i < 30 → ∀ K2 : Kt, K = K2 → i < K2.2.2.2.2.2.2.2.2.2.2.1) (R : Lr K (Zl V A q))  (hJ2859 : ∀ (σ_2859 : Wd) (v6_2859 : Int32) (v8_2859 : Int32) (v9_2859 : Int32) (v10_2859 : Int32) (v11_2859 : Int32) (v12_2859 : Int32) (v13_2859 : Int32) (v14_2859 : Int32), Y K (Zl V A q) (M_L_law_J2859 q σ_2859 v6_2859 v8_2859 v9_2859 v10_2859 v11_2859 v12_2859 v13_2859 v14_2859) (fun q : Int32 × Wd => q.1 = 1) σ_2859 2859 [(1, .ref (A 0)), (3, .ref (zA (Zl V A q) 0)), (4, .ref (A 1)), (6, .int v6_2859), (8, .int v8_2859), (9, .int v9_2859), (10, .int v10_2859), (11, .int v11_2859), (12, .int v12_2859), (13, .int v13_2859), (14, .int v14_2859)] []) (hJ2860 : ∀ (σ_2860 : Wd) (v6_2860 : Int32) (v8_2860 : Int32) (v9_2860 : Int32) (v10_2860 : Int32) (v11_2860 : Int32) (v12_2860 : Int32) (v13_2860 : Int32) (v14_2860 : Int32) (t0_2860 : Int32), Y K (Zl V A q) (M_L_law_J2860 q σ_2860 v6_2860 v8_2860 v9_2860 v10_2860 v11_2860 v12_2860 v13_2860 v14_2860 t0_2860) (fun q : Int32 × Wd => q.1 = 1) σ_2860 2860 [(1, .ref (A 0)), (3, .ref (zA (Zl V A q) 0)), (4, .ref (A 1)), (6, .int v6_2860), (8, .int v8_2860), (9, .int v9_2860), (10, .int v10_2860), (11, .int v11_2860), (12, .int v12_2860), (13, .int v13_2860), (14, .int v14_2860)] [.int t0_2860]) : ∀ (σ_2837 : Wd) (v6_2837 : Int32) (v8_2837 : Int32) (v9_2837 : Int32) (v10_2837 : Int32) (v11_2837 : Int32) (v12_2837 : Int32) (v13_2837 : Int32) (v14_2837 : Int32) (t0_2837 : Int32), Y K (Zl V A q) (M_L_law_J2837 q σ_2837 v6_2837 v8_2837 v9_2837 v10_2837 v11_2837 v12_2837 v13_2837 v14_2837 t0_2837) (fun q : Int32 × Wd => q.1 = 1) σ_2837 2837 [(1, .ref (A 0)), (3, .ref (zA (Zl V A q) 0)), (4, .ref (A 1)), (6, .int v6_2837), (8, .int v8_2837), (9, .int v9_2837), (10, .int v10_2837), (11, .int v11_2837), (12, .int v12_2837), (13, .int v13_2837), (14, .int v14_2837)] [.int t0_2837] := by
  intro σ_2837 v6_2837 v8_2837 v9_2837 v10_2837 v11_2837 v12_2837 v13_2837 v14_2837 t0_2837
  unfold M_L_law_J2837
  refine x_aload_n C 2837 1 dL_law_2837 rfl ?_
  refine x_bipush C 2838 dL_law_2838 kb_10 ?_
  refine Y_bnd2 (fun r2840 s_2840 h2840 => ?_)
  refine x_callLV C 2840 [.int (10 : Int32)] [.int t0_2837] rfl tw_1117 mv_X8_count rfl (Nat.le_of_ble_eq_true rfl) (Nat.le_of_ble_eq_true rfl) (Nat.le_of_ble_eq_true rfl) dL_law_2840 (c_X8_count V _ _ _ h2840) ?_
  refine x_iconst C 2843 dL_law_2843 ki_1 ?_
  have hJ2852 : ∀ (σ_2852 : Wd) (v6_2852 : Int32) (v8_2852 : Int32) (v9_2852 : Int32) (v10_2852 : Int32) (v11_2852 : Int32) (v12_2852 : Int32) (v13_2852 : Int32) (v14_2852 : Int32) (t0_2852 : Int32) (t1_2852 : Int32), Y K (Zl V A q) (M_L_law_J2852 q σ_2852 v6_2852 v8_2852 v9_2852 v10_2852 v11_2852 v12_2852 v13_2852 v14_2852 t0_2852 t1_2852) (fun q : Int32 × Wd => q.1 = 1) σ_2852 2852 [(1, .ref (A 0)), (3, .ref (zA (Zl V A q) 0)), (4, .ref (A 1)), (6, .int v6_2852), (8, .int v8_2852), (9, .int v9_2852), (10, .int v10_2852), (11, .int v11_2852), (12, .int v12_2852), (13, .int v13_2852), (14, .int v14_2852)] [.int t0_2852, .int t1_2852] := c_LJ2852 C hNW hN R hJ2859 hJ2860
  refine x_icmp_ne C 2844 2851 dL_law_2844 (by decide) (fun _ => ?_) (fun _ => ?_)
  · refine x_iconst C 2851 dL_law_2851 ki_0 ?_
    exact hJ2852 _ _ _ _ _ _ _ _ _ _ _
  · refine x_iconst C 2847 dL_law_2847 ki_1 ?_
    refine x_goto C 2848 2852 dL_law_2848 (by decide) ?_
    exact hJ2852 _ _ _ _ _ _ _ _ _ _ _
set_option maxRecDepth 100000 in
set_option maxHeartbeats 40000000 in
theorem c_LJ2765 {V : Ct_V} {A : Nat → Nat} {q : Lq} {K : Kt} (C : Fx K (Zl V A q) cL_law RL 7 171) (hNW : ∀ w ∈ NWl, va_Nw w K.2.2.2.2.1) (hN : ∀ i, i < 30 → ∀ K2 : Kt, K = K2 → i < K2.2.2.2.2.2.2.2.2.2.2.1) (R : Lr K (Zl V A q))   : ∀ (σ_2765 : Wd) (v5_2765 : Int32) (v6_2765 : Int32) (v8_2765 : Int32) (v9_2765 : Int32) (v10_2765 : Int32) (v11_2765 : Int32), Y K (Zl V A q) (M_L_law_J2765 q σ_2765 v5_2765 v6_2765 v8_2765 v9_2765 v10_2765 v11_2765) (fun q : Int32 × Wd => q.1 = 1) σ_2765 2765 [(1, .ref (A 0)), (3, .ref (zA (Zl V A q) 0)), (4, .ref (A 1)), (5, .int v5_2765), (6, .int v6_2765), (8, .int v8_2765), (9, .int v9_2765), (10, .int v10_2765), (11, .int v11_2765)] [] := by
  intro σ_2765 v5_2765 v6_2765 v8_2765 v9_2765 v10_2765 v11_2765
  unfold M_L_law_J2765
  refine x_aload_n C 2765 1 dL_law_2765 rfl ?_
  refine x_iconst C 2766 dL_law_2766 ki_0 ?_
  refine Y_bnd1 (fun r2767 h2767 => ?_)
  refine x_callLV C 2767 [.int (0 : Int32)] [] rfl tw_1038 mv_X8_plan rfl (Nat.le_of_ble_eq_true rfl) (Nat.le_of_ble_eq_true rfl) (Nat.le_of_ble_eq_true rfl) dL_law_2767 (c_X8_plan V _ _ _ h2767) ?_
  refine x_istore C 2770 (L' := [(12, .int r2767), (1, .ref (A 0)), (3, .ref (zA (Zl V A q) 0)), (4, .ref (A 1)), (5, .int v5_2765), (6, .int v6_2765), (8, .int v8_2765), (9, .int v9_2765), (10, .int v10_2765), (11, .int v11_2765)]) dL_law_2770 (hN _ (Nat.le_of_ble_eq_true rfl)) rfl ?_
  refine x_aload_n C 2772 2 dL_law_2772 rfl ?_
  refine x_iconst C 2773 dL_law_2773 ki_1 ?_
  refine Y_bnd1 (fun r2774 h2774 => ?_)
  refine x_callLV C 2774 [.int (1 : Int32)] [] rfl tw_1038 mv_X8_plan rfl (Nat.le_of_ble_eq_true rfl) (Nat.le_of_ble_eq_true rfl) (Nat.le_of_ble_eq_true rfl) dL_law_2774 (c_X8_plan V _ _ _ h2774) ?_
  refine x_istore C 2777 (L' := [(13, .int r2774), (12, .int r2767), (1, .ref (A 0)), (3, .ref (zA (Zl V A q) 0)), (4, .ref (A 1)), (5, .int v5_2765), (6, .int v6_2765), (8, .int v8_2765), (9, .int v9_2765), (10, .int v10_2765), (11, .int v11_2765)]) dL_law_2777 (hN _ (Nat.le_of_ble_eq_true rfl)) rfl ?_
  refine x_aload_n C 2779 3 dL_law_2779 rfl ?_
  refine x_iconst C 2780 dL_law_2780 ki_2 ?_
  refine Y_bnd1 (fun r2781 h2781 => ?_)
  refine x_callLV C 2781 [.int (2 : Int32)] [] rfl tw_1038 mv_X8_plan rfl (Nat.le_of_ble_eq_true rfl) (Nat.le_of_ble_eq_true rfl) (Nat.le_of_ble_eq_true rfl) dL_law_2781 (c_X8_plan V _ _ _ h2781) ?_
  refine x_istore C 2784 (L' := [(14, .int r2781), (13, .int r2774), (12, .int r2767), (1, .ref (A 0)), (3, .ref (zA (Zl V A q) 0)), (4, .ref (A 1)), (5, .int v5_2765), (6, .int v6_2765), (8, .int v8_2765), (9, .int v9_2765), (10, .int v10_2765), (11, .int v11_2765)]) dL_law_2784 (hN _ (Nat.le_of_ble_eq_true rfl)) rfl ?_
  refine x_iload C 2786 6 dL_law_2786 rfl ?_
  have hJ2860 : ∀ (σ_2860 : Wd) (v6_2860 : Int32) (v8_2860 : Int32) (v9_2860 : Int32) (v10_2860 : Int32) (v11_2860 : Int32) (v12_2860 : Int32) (v13_2860 : Int32) (v14_2860 : Int32) (t0_2860 : Int32), Y K (Zl V A q) (M_L_law_J2860 q σ_2860 v6_2860 v8_2860 v9_2860 v10_2860 v11_2860 v12_2860 v13_2860 v14_2860 t0_2860) (fun q : Int32 × Wd => q.1 = 1) σ_2860 2860 [(1, .ref (A 0)), (3, .ref (zA (Zl V A q) 0)), (4, .ref (A 1)), (6, .int v6_2860), (8, .int v8_2860), (9, .int v9_2860), (10, .int v10_2860), (11, .int v11_2860), (12, .int v12_2860), (13, .int v13_2860), (14, .int v14_2860)] [.int t0_2860] := c_LJ2860 C hNW hN R 
  have hJ2859 : ∀ (σ_2859 : Wd) (v6_2859 : Int32) (v8_2859 : Int32) (v9_2859 : Int32) (v10_2859 : Int32) (v11_2859 : Int32) (v12_2859 : Int32) (v13_2859 : Int32) (v14_2859 : Int32), Y K (Zl V A q) (M_L_law_J2859 q σ_2859 v6_2859 v8_2859 v9_2859 v10_2859 v11_2859 v12_2859 v13_2859 v14_2859) (fun q : Int32 × Wd => q.1 = 1) σ_2859 2859 [(1, .ref (A 0)), (3, .ref (zA (Zl V A q) 0)), (4, .ref (A 1)), (6, .int v6_2859), (8, .int v8_2859), (9, .int v9_2859), (10, .int v10_2859), (11, .int v11_2859), (12, .int v12_2859), (13, .int v13_2859), (14, .int v14_2859)] [] := c_LJ2859 C hNW hN R hJ2860
  refine x_if_eq C 2788 2859 dL_law_2788 (by decide) (fun _ => ?_) (fun _ => ?_)
  · refine Y_sub [3, 4, 5, 7, 8, 9, 10, 11, 2, 1, 0] rfl ?_
    exact hJ2859 _ _ _ _ _ _ _ _ _
  · refine x_iload C 2791 2 dL_law_2791 rfl ?_
    refine x_iload C 2793 1 dL_law_2793 rfl ?_
    refine Y_bnd1 (fun r2795 h2795 => ?_)
    refine x_callLS C 2795 [.int r2774] [.int r2767] rfl tw_1376 ms_J6_bitCount_0f7a4 (Nat.le_of_ble_eq_true rfl) (Nat.le_of_ble_eq_true rfl) (Nat.le_of_ble_eq_true rfl) dL_law_2795 (c_J6_bitCount_0f7a4 V _ _ _ h2795) ?_
    refine x_iload C 2798 0 dL_law_2798 rfl ?_
    refine Y_bnd1 (fun r2800 h2800 => ?_)
    refine x_callLS C 2800 [.int r2781] [.int r2795, .int r2767] rfl tw_1376 ms_J6_bitCount_0f7a4 (Nat.le_of_ble_eq_true rfl) (Nat.le_of_ble_eq_true rfl) (Nat.le_of_ble_eq_true rfl) dL_law_2800 (c_J6_bitCount_0f7a4 V _ _ _ h2800) ?_
    refine x_iadd C 2803 dL_law_2803 ?_
    refine x_icmp_ne C 2804 2859 dL_law_2804 (by decide) (fun _ => ?_) (fun _ => ?_)
    · refine Y_sub [3, 4, 5, 7, 8, 9, 10, 11, 2, 1, 0] rfl ?_
      exact hJ2859 _ _ _ _ _ _ _ _ _
    · refine x_iload C 2807 1 dL_law_2807 rfl ?_
      refine x_iload C 2809 11 dL_law_2809 rfl ?_
      refine x_ishr C 2811 dL_law_2811 ?_
      refine x_iconst C 2812 dL_law_2812 ki_1 ?_
      refine x_iand C 2813 dL_law_2813 ?_
      refine x_if_ne C 2814 2859 dL_law_2814 (by decide) (fun _ => ?_) (fun _ => ?_)
      · refine Y_sub [3, 4, 5, 7, 8, 9, 10, 11, 2, 1, 0] rfl ?_
        exact hJ2859 _ _ _ _ _ _ _ _ _
      · refine x_iload C 2817 0 dL_law_2817 rfl ?_
        refine x_iload C 2819 11 dL_law_2819 rfl ?_
        refine x_ishr C 2821 dL_law_2821 ?_
        refine x_iconst C 2822 dL_law_2822 ki_1 ?_
        refine x_iand C 2823 dL_law_2823 ?_
        refine x_if_ne C 2824 2859 dL_law_2824 (by decide) (fun _ => ?_) (fun _ => ?_)
        · refine Y_sub [3, 4, 5, 7, 8, 9, 10, 11, 2, 1, 0] rfl ?_
          exact hJ2859 _ _ _ _ _ _ _ _ _
        · refine x_iload C 2827 2 dL_law_2827 rfl ?_
          have hJ2837 : ∀ (σ_2837 : Wd) (v6_2837 : Int32) (v8_2837 : Int32) (v9_2837 : Int32) (v10_2837 : Int32) (v11_2837 : Int32) (v12_2837 : Int32) (v13_2837 : Int32) (v14_2837 : Int32) (t0_2837 : Int32), Y K (Zl V A q) (M_L_law_J2837 q σ_2837 v6_2837 v8_2837 v9_2837 v10_2837 v11_2837 v12_2837 v13_2837 v14_2837 t0_2837) (fun q : Int32 × Wd => q.1 = 1) σ_2837 2837 [(1, .ref (A 0)), (3, .ref (zA (Zl V A q) 0)), (4, .ref (A 1)), (6, .int v6_2837), (8, .int v8_2837), (9, .int v9_2837), (10, .int v10_2837), (11, .int v11_2837), (12, .int v12_2837), (13, .int v13_2837), (14, .int v14_2837)] [.int t0_2837] := c_LJ2837 C hNW hN R hJ2859 hJ2860
          refine x_if_ne C 2829 2836 dL_law_2829 (by decide) (fun _ => ?_) (fun _ => ?_)
          · refine x_iconst C 2836 dL_law_2836 ki_0 ?_
            refine Y_sub [3, 4, 5, 7, 8, 9, 10, 11, 2, 1, 0] rfl ?_
            exact hJ2837 _ _ _ _ _ _ _ _ _ _
          · refine x_iconst C 2832 dL_law_2832 ki_1 ?_
            refine x_goto C 2833 2837 dL_law_2833 (by decide) ?_
            refine Y_sub [3, 4, 5, 7, 8, 9, 10, 11, 2, 1, 0] rfl ?_
            exact hJ2837 _ _ _ _ _ _ _ _ _ _
set_option maxRecDepth 100000 in
set_option maxHeartbeats 40000000 in
theorem c_LJ2759 {V : Ct_V} {A : Nat → Nat} {q : Lq} {K : Kt} (C : Fx K (Zl V A q) cL_law RL 7 171) (hNW : ∀ w ∈ NWl, va_Nw w K.2.2.2.2.1) (hN : ∀ i, i < 30 → ∀ K2 : Kt, K = K2 → i < K2.2.2.2.2.2.2.2.2.2.2.1) (R : Lr K (Zl V A q)) {E1985 : ((Int32 × Int32 × Wd) ⊕ (Int32 × Wd)) → Prop} {r1955 : Int32} {r1962 : Int32} {r1970 : Int32} {r1977 : Int32} {v6_1951 : Int32} {v7_1951 : Int32} (hb1985 : ∀ s' : Int32 × Int32 × Wd, E1985 (.inl s') → Go K (Zl V A q) ((fun s : Int32 × Int32 × Wd => s.2.2) s') 1985 ((fun s : Int32 × Int32 × Wd => [(1, .ref (A 0)), (3, .ref (zA (Zl V A q) 0)), (4, .ref (A 1)), (5, .int s.1), (6, .int v6_1951), (7, .int v7_1951), (8, .int r1955), (9, .int r1962), (10, .int r1970), (11, .int r1977), (12, .int s.2.1)]) s') []) : ∀ (σ_2759 : Wd) (v5_2759 : Int32) (v12_2759 : Int32), Y K (Zl V A q) (M_L_law_J2759 q σ_2759 v5_2759 v6_1951 v7_1951 r1955 r1962 r1970 r1977 v12_2759) E1985 σ_2759 2759 [(1, .ref (A 0)), (3, .ref (zA (Zl V A q) 0)), (4, .ref (A 1)), (5, .int v5_2759), (6, .int v6_1951), (7, .int v7_1951), (8, .int r1955), (9, .int r1962), (10, .int r1970), (11, .int r1977), (12, .int v12_2759)] [] := by
  intro σ_2759 v5_2759 v12_2759
  unfold M_L_law_J2759
  refine x_iinct C 2759 10 (1 : Int32) (fun v12_2759 => [(12, .int v12_2759), (1, .ref (A 0)), (3, .ref (zA (Zl V A q) 0)), (4, .ref (A 1)), (5, .int v5_2759), (6, .int v6_1951), (7, .int v7_1951), (8, .int r1955), (9, .int r1962), (10, .int r1970), (11, .int r1977)]) dL_law_2759 rfl ki_1 (hN _ (Nat.le_of_ble_eq_true rfl)) (fun _ => rfl) (fun v12_2759 => ?_)
  refine x_goto C 2762 1985 dL_law_2762 (by decide) ?_
  refine Y_sub [1, 2, 3, 4, 5, 6, 7, 8, 9, 10, 0] rfl ?_
  exact x_back (v5_2759, v12_2759, σ_2759) (hb1985 (v5_2759, v12_2759, σ_2759))
set_option maxRecDepth 100000 in
set_option maxHeartbeats 40000000 in
theorem c_LJ2751 {V : Ct_V} {A : Nat → Nat} {q : Lq} {K : Kt} (C : Fx K (Zl V A q) cL_law RL 7 171) (hNW : ∀ w ∈ NWl, va_Nw w K.2.2.2.2.1) (hN : ∀ i, i < 30 → ∀ K2 : Kt, K = K2 → i < K2.2.2.2.2.2.2.2.2.2.2.1) (R : Lr K (Zl V A q)) {E2607 : ((Int32 × Int32 × Wd) ⊕ (Int32 × Wd)) → Prop} {r1955 : Int32} {r1962 : Int32} {r1970 : Int32} {r1977 : Int32} {v12_2604 : Int32} {v13_2604 : Int32} {v6_1951 : Int32} {v7_1951 : Int32} (hb2607 : ∀ s' : Int32 × Int32 × Wd, E2607 (.inl s') → Go K (Zl V A q) ((fun s : Int32 × Int32 × Wd => s.2.2) s') 2607 ((fun s : Int32 × Int32 × Wd => [(1, .ref (A 0)), (3, .ref (zA (Zl V A q) 0)), (4, .ref (A 1)), (5, .int s.1), (6, .int v6_1951), (7, .int v7_1951), (8, .int r1955), (9, .int r1962), (10, .int r1970), (11, .int r1977), (12, .int v12_2604), (13, .int v13_2604), (18, .int s.2.1)]) s') []) : ∀ (σ_2751 : Wd) (v18_2751 : Int32) (t0_2751 : Int32), Y K (Zl V A q) (M_L_law_J2751 q σ_2751 v6_1951 v7_1951 r1955 r1962 r1970 r1977 v12_2604 v13_2604 v18_2751 t0_2751) E2607 σ_2751 2751 [(1, .ref (A 0)), (3, .ref (zA (Zl V A q) 0)), (4, .ref (A 1)), (6, .int v6_1951), (7, .int v7_1951), (8, .int r1955), (9, .int r1962), (10, .int r1970), (11, .int r1977), (12, .int v12_2604), (13, .int v13_2604), (18, .int v18_2751)] [.int t0_2751] := by
  intro σ_2751 v18_2751 t0_2751
  unfold M_L_law_J2751
  refine x_istore C 2751 (L' := [(5, .int t0_2751), (1, .ref (A 0)), (3, .ref (zA (Zl V A q) 0)), (4, .ref (A 1)), (6, .int v6_1951), (7, .int v7_1951), (8, .int r1955), (9, .int r1962), (10, .int r1970), (11, .int r1977), (12, .int v12_2604), (13, .int v13_2604), (18, .int v18_2751)]) dL_law_2751 (hN _ (Nat.le_of_ble_eq_true rfl)) rfl ?_
  refine x_iinct C 2753 12 (1 : Int32) (fun v18_2753 => [(18, .int v18_2753), (5, .int t0_2751), (1, .ref (A 0)), (3, .ref (zA (Zl V A q) 0)), (4, .ref (A 1)), (6, .int v6_1951), (7, .int v7_1951), (8, .int r1955), (9, .int r1962), (10, .int r1970), (11, .int r1977), (12, .int v12_2604), (13, .int v13_2604)]) dL_law_2753 rfl ki_1 (hN _ (Nat.le_of_ble_eq_true rfl)) (fun _ => rfl) (fun v18_2753 => ?_)
  refine x_goto C 2756 2607 dL_law_2756 (by decide) ?_
  refine Y_sub [2, 3, 4, 1, 5, 6, 7, 8, 9, 10, 11, 12, 0] rfl ?_
  exact x_back (t0_2751, v18_2753, σ_2751) (hb2607 (t0_2751, v18_2753, σ_2751))
set_option maxRecDepth 100000 in
set_option maxHeartbeats 40000000 in
theorem c_LJ2750 {V : Ct_V} {A : Nat → Nat} {q : Lq} {K : Kt} (C : Fx K (Zl V A q) cL_law RL 7 171) (hNW : ∀ w ∈ NWl, va_Nw w K.2.2.2.2.1) (hN : ∀ i, i < 30 → ∀ K2 : Kt, K = K2 → i < K2.2.2.2.2.2.2.2.2.2.2.1) (R : Lr K (Zl V A q)) {E2607 : ((Int32 × Int32 × Wd) ⊕ (Int32 × Wd)) → Prop} {r1955 : Int32} {r1962 : Int32} {r1970 : Int32} {r1977 : Int32} {v12_2604 : Int32} {v13_2604 : Int32} {v6_1951 : Int32} {v7_1951 : Int32} (hJ2751 : ∀ (σ_2751 : Wd) (v18_2751 : Int32) (t0_2751 : Int32), Y K (Zl V A q) (M_L_law_J2751 q σ_2751 v6_1951 v7_1951 r1955 r1962 r1970 r1977 v12_2604 v13_2604 v18_2751 t0_2751) E2607 σ_2751 2751 [(1, .ref (A 0)), (3, .ref (zA (Zl V A q) 0)), (4, .ref (A 1)), (6, .int v6_1951), (7, .int v7_1951), (8, .int r1955), (9, .int r1962), (10, .int r1970), (11, .int r1977), (12, .int v12_2604), (13, .int v13_2604), (18, .int v18_2751)] [.int t0_2751]) : ∀ (σ_2750 : Wd) (v18_2750 : Int32), Y K (Zl V A q) (M_L_law_J2750 q σ_2750 v6_1951 v7_1951 r1955 r1962 r1970 r1977 v12_2604 v13_2604 v18_2750) E2607 σ_2750 2750 [(1, .ref (A 0)), (3, .ref (zA (Zl V A q) 0)), (4, .ref (A 1)), (6, .int v6_1951), (7, .int v7_1951), (8, .int r1955), (9, .int r1962), (10, .int r1970), (11, .int r1977), (12, .int v12_2604), (13, .int v13_2604), (18, .int v18_2750)] [] := by
  intro σ_2750 v18_2750
  unfold M_L_law_J2750
  refine x_iconst C 2750 dL_law_2750 ki_0 ?_
  exact hJ2751 _ _ _
set_option maxRecDepth 100000 in
set_option maxHeartbeats 40000000 in
theorem c_LJ2746 {V : Ct_V} {A : Nat → Nat} {q : Lq} {K : Kt} (C : Fx K (Zl V A q) cL_law RL 7 171) (hNW : ∀ w ∈ NWl, va_Nw w K.2.2.2.2.1) (hN : ∀ i, i < 30 → ∀ K2 : Kt, K = K2 → i < K2.2.2.2.2.2.2.2.2.2.2.1) (R : Lr K (Zl V A q)) {E2607 : ((Int32 × Int32 × Wd) ⊕ (Int32 × Wd)) → Prop} {r1955 : Int32} {r1962 : Int32} {r1970 : Int32} {r1977 : Int32} {v12_2604 : Int32} {v13_2604 : Int32} {v6_1951 : Int32} {v7_1951 : Int32} (hJ2751 : ∀ (σ_2751 : Wd) (v18_2751 : Int32) (t0_2751 : Int32), Y K (Zl V A q) (M_L_law_J2751 q σ_2751 v6_1951 v7_1951 r1955 r1962 r1970 r1977 v12_2604 v13_2604 v18_2751 t0_2751) E2607 σ_2751 2751 [(1, .ref (A 0)), (3, .ref (zA (Zl V A q) 0)), (4, .ref (A 1)), (6, .int v6_1951), (7, .int v7_1951), (8, .int r1955), (9, .int r1962), (10, .int r1970), (11, .int r1977), (12, .int v12_2604), (13, .int v13_2604), (18, .int v18_2751)] [.int t0_2751]) : ∀ (σ_2746 : Wd) (v18_2746 : Int32), Y K (Zl V A q) (M_L_law_J2746 q σ_2746 v6_1951 v7_1951 r1955 r1962 r1970 r1977 v12_2604 v13_2604 v18_2746) E2607 σ_2746 2746 [(1, .ref (A 0)), (3, .ref (zA (Zl V A q) 0)), (4, .ref (A 1)), (6, .int v6_1951), (7, .int v7_1951), (8, .int r1955), (9, .int r1962), (10, .int r1970), (11, .int r1977), (12, .int v12_2604), (13, .int v13_2604), (18, .int v18_2746)] [] := by
  intro σ_2746 v18_2746
  unfold M_L_law_J2746
  refine x_iconst C 2746 dL_law_2746 ki_1 ?_
  refine x_goto C 2747 2751 dL_law_2747 (by decide) ?_
  exact hJ2751 _ _ _
set_option maxRecDepth 100000 in
set_option maxHeartbeats 40000000 in
theorem c_LL2607 {V : Ct_V} {A : Nat → Nat} {q : Lq} {K : Kt} (C : Fx K (Zl V A q) cL_law RL 7 171) (hNW : ∀ w ∈ NWl, va_Nw w K.2.2.2.2.1) (hN : ∀ i, i < 30 → ∀ K2 : Kt, K = K2 → i < K2.2.2.2.2.2.2.2.2.2.2.1) (R : Lr K (Zl V A q)) {E1985 : ((Int32 × Int32 × Wd) ⊕ (Int32 × Wd)) → Prop} {E2607 : ((Int32 × Int32 × Wd) ⊕ (Int32 × Wd)) → Prop} {r1955 : Int32} {r1962 : Int32} {r1970 : Int32} {r1977 : Int32} {v12_2604 : Int32} {v13_2604 : Int32} {v6_1951 : Int32} {v7_1951 : Int32} (hx2607 : ∀ x, E2607 (.inr x) → ∃ q0, (un2 fun x5_2607 sx_2607 => (M_L_law_J2759 q sx_2607 x5_2607 v6_1951 v7_1951 r1955 r1962 r1970 r1977 v12_2604)) x = some q0 ∧ E1985 q0) (hJ2759 : ∀ (σ_2759 : Wd) (v5_2759 : Int32) (v12_2759 : Int32), Y K (Zl V A q) (M_L_law_J2759 q σ_2759 v5_2759 v6_1951 v7_1951 r1955 r1962 r1970 r1977 v12_2759) E1985 σ_2759 2759 [(1, .ref (A 0)), (3, .ref (zA (Zl V A q) 0)), (4, .ref (A 1)), (5, .int v5_2759), (6, .int v6_1951), (7, .int v7_1951), (8, .int r1955), (9, .int r1962), (10, .int r1970), (11, .int r1977), (12, .int v12_2759)] []) (hb2607 : ∀ s' : Int32 × Int32 × Wd, E2607 (.inl s') → Go K (Zl V A q) ((fun s : Int32 × Int32 × Wd => s.2.2) s') 2607 ((fun s : Int32 × Int32 × Wd => [(1, .ref (A 0)), (3, .ref (zA (Zl V A q) 0)), (4, .ref (A 1)), (5, .int s.1), (6, .int v6_1951), (7, .int v7_1951), (8, .int r1955), (9, .int r1962), (10, .int r1970), (11, .int r1977), (12, .int v12_2604), (13, .int v13_2604), (18, .int s.2.1)]) s') []) : ∀ (v5_2607 : Int32) (v18_2607 : Int32) (s_2607 : Wd), Y K (Zl V A q) (M_L_law_L2607 q v6_1951 v7_1951 r1955 r1962 r1970 r1977 v12_2604 v13_2604 v5_2607 v18_2607 s_2607) E2607 s_2607 2607 [(1, .ref (A 0)), (3, .ref (zA (Zl V A q) 0)), (4, .ref (A 1)), (5, .int v5_2607), (6, .int v6_1951), (7, .int v7_1951), (8, .int r1955), (9, .int r1962), (10, .int r1970), (11, .int r1977), (12, .int v12_2604), (13, .int v13_2604), (18, .int v18_2607)] [] := by
  intro v5_2607 v18_2607 s_2607
  unfold M_L_law_L2607
  refine x_iload C 2607 12 dL_law_2607 rfl ?_
  refine x_iload C 2609 4 dL_law_2609 rfl ?_
  refine x_icmp_ge C 2611 2759 dL_law_2611 (by decide) (fun _ => ?_) (fun _ => ?_)
  · refine x_ex2 hx2607 v5_2607 s_2607 ?_
    refine Y_sub [0, 1, 2, 3, 4, 5, 6, 7, 8, 9, 10] rfl ?_
    exact hJ2759 _ _ _
  · refine x_iload C 2614 3 dL_law_2614 rfl ?_
    have hJ2751 : ∀ (σ_2751 : Wd) (v18_2751 : Int32) (t0_2751 : Int32), Y K (Zl V A q) (M_L_law_J2751 q σ_2751 v6_1951 v7_1951 r1955 r1962 r1970 r1977 v12_2604 v13_2604 v18_2751 t0_2751) E2607 σ_2751 2751 [(1, .ref (A 0)), (3, .ref (zA (Zl V A q) 0)), (4, .ref (A 1)), (6, .int v6_1951), (7, .int v7_1951), (8, .int r1955), (9, .int r1962), (10, .int r1970), (11, .int r1977), (12, .int v12_2604), (13, .int v13_2604), (18, .int v18_2751)] [.int t0_2751] := c_LJ2751 C hNW hN R hb2607
    have hJ2750 : ∀ (σ_2750 : Wd) (v18_2750 : Int32), Y K (Zl V A q) (M_L_law_J2750 q σ_2750 v6_1951 v7_1951 r1955 r1962 r1970 r1977 v12_2604 v13_2604 v18_2750) E2607 σ_2750 2750 [(1, .ref (A 0)), (3, .ref (zA (Zl V A q) 0)), (4, .ref (A 1)), (6, .int v6_1951), (7, .int v7_1951), (8, .int r1955), (9, .int r1962), (10, .int r1970), (11, .int r1977), (12, .int v12_2604), (13, .int v13_2604), (18, .int v18_2750)] [] := c_LJ2750 C hNW hN R hJ2751
    refine x_if_eq C 2616 2750 dL_law_2616 (by decide) (fun _ => ?_) (fun _ => ?_)
    · refine Y_sub [0, 1, 2, 4, 5, 6, 7, 8, 9, 10, 11, 12] rfl ?_
      exact hJ2750 _ _
    · refine x_aload_n C 2619 1 dL_law_2619 rfl ?_
      refine x_iload C 2620 10 dL_law_2620 rfl ?_
      refine x_iload C 2622 12 dL_law_2622 rfl ?_
      refine Y_bnd2 (fun r2624 s_2624 h2624 => ?_)
      refine x_callLV C 2624 [.int v12_2604, .int v18_2607] [] rfl tw_1008 mv_X8_fork rfl (Nat.le_of_ble_eq_true rfl) (Nat.le_of_ble_eq_true rfl) (Nat.le_of_ble_eq_true rfl) dL_law_2624 (c_X8_fork V _ _ _ _ h2624) ?_
      refine x_aload_n C 2627 1 dL_law_2627 rfl ?_
      refine x_iload C 2628 12 dL_law_2628 rfl ?_
      refine x_iload C 2630 10 dL_law_2630 rfl ?_
      refine Y_bnd2 (fun r2632 s_2632 h2632 => ?_)
      refine x_callLV C 2632 [.int v18_2607, .int v12_2604] [.int r2624] rfl tw_1008 mv_X8_fork rfl (Nat.le_of_ble_eq_true rfl) (Nat.le_of_ble_eq_true rfl) (Nat.le_of_ble_eq_true rfl) dL_law_2632 (c_X8_fork V _ _ _ _ h2632) ?_
      refine x_icmp_ne C 2635 2750 dL_law_2635 (by decide) (fun _ => ?_) (fun _ => ?_)
      · refine Y_sub [0, 1, 2, 4, 5, 6, 7, 8, 9, 10, 11, 12] rfl ?_
        exact hJ2750 _ _
      · refine x_aload_n C 2638 1 dL_law_2638 rfl ?_
        refine x_iload C 2639 10 dL_law_2639 rfl ?_
        refine x_iload C 2641 12 dL_law_2641 rfl ?_
        refine Y_bnd2 (fun r2643 s_2643 h2643 => ?_)
        refine x_callLV C 2643 [.int v12_2604, .int v18_2607] [] rfl tw_980 mv_X8_differ rfl (Nat.le_of_ble_eq_true rfl) (Nat.le_of_ble_eq_true rfl) (Nat.le_of_ble_eq_true rfl) dL_law_2643 (c_X8_differ V _ _ _ _ h2643) ?_
        refine x_aload_n C 2646 1 dL_law_2646 rfl ?_
        refine x_iload C 2647 12 dL_law_2647 rfl ?_
        refine x_iload C 2649 10 dL_law_2649 rfl ?_
        refine Y_bnd2 (fun r2651 s_2651 h2651 => ?_)
        refine x_callLV C 2651 [.int v18_2607, .int v12_2604] [.int r2643] rfl tw_980 mv_X8_differ rfl (Nat.le_of_ble_eq_true rfl) (Nat.le_of_ble_eq_true rfl) (Nat.le_of_ble_eq_true rfl) dL_law_2651 (c_X8_differ V _ _ _ _ h2651) ?_
        refine x_icmp_ne C 2654 2750 dL_law_2654 (by decide) (fun _ => ?_) (fun _ => ?_)
        · refine Y_sub [0, 1, 2, 4, 5, 6, 7, 8, 9, 10, 11, 12] rfl ?_
          exact hJ2750 _ _
        · refine x_aload_n C 2657 1 dL_law_2657 rfl ?_
          refine x_iload C 2658 10 dL_law_2658 rfl ?_
          refine x_iload C 2660 12 dL_law_2660 rfl ?_
          refine Y_bnd1 (fun r2662 h2662 => ?_)
          refine x_callLV C 2662 [.int v12_2604, .int v18_2607] [] rfl tw_984 mv_X8_alike rfl (Nat.le_of_ble_eq_true rfl) (Nat.le_of_ble_eq_true rfl) (Nat.le_of_ble_eq_true rfl) dL_law_2662 (c_X8_alike V _ _ _ _ h2662) ?_
          refine x_aload_n C 2665 1 dL_law_2665 rfl ?_
          refine x_iload C 2666 12 dL_law_2666 rfl ?_
          refine x_iload C 2668 10 dL_law_2668 rfl ?_
          refine Y_bnd1 (fun r2670 h2670 => ?_)
          refine x_callLV C 2670 [.int v18_2607, .int v12_2604] [.int r2662] rfl tw_984 mv_X8_alike rfl (Nat.le_of_ble_eq_true rfl) (Nat.le_of_ble_eq_true rfl) (Nat.le_of_ble_eq_true rfl) dL_law_2670 (c_X8_alike V _ _ _ _ h2670) ?_
          refine x_icmp_ne C 2673 2750 dL_law_2673 (by decide) (fun _ => ?_) (fun _ => ?_)
          · refine Y_sub [0, 1, 2, 4, 5, 6, 7, 8, 9, 10, 11, 12] rfl ?_
            exact hJ2750 _ _
          · refine x_aload_n C 2676 1 dL_law_2676 rfl ?_
            refine x_iload C 2677 10 dL_law_2677 rfl ?_
            refine x_iconst C 2679 dL_law_2679 ki_1 ?_
            refine Y_bnd2 (fun r2680 s_2680 h2680 => ?_)
            refine x_callLV C 2680 [.int v12_2604, .int (1 : Int32)] [] rfl tw_917 mv_X8_copy rfl (Nat.le_of_ble_eq_true rfl) (Nat.le_of_ble_eq_true rfl) (Nat.le_of_ble_eq_true rfl) dL_law_2680 (c_X8_copy V _ _ _ _ h2680) ?_
            refine x_aload_n C 2683 1 dL_law_2683 rfl ?_
            refine x_iload C 2684 10 dL_law_2684 rfl ?_
            refine x_iload C 2686 12 dL_law_2686 rfl ?_
            refine Y_bnd1 (fun r2688 h2688 => ?_)
            refine x_callLV C 2688 [.int v12_2604, .int v18_2607] [.int r2680] rfl tw_967 mv_X8_lacks rfl (Nat.le_of_ble_eq_true rfl) (Nat.le_of_ble_eq_true rfl) (Nat.le_of_ble_eq_true rfl) dL_law_2688 (c_X8_lacks V _ _ _ _ h2688) ?_
            refine x_isub C 2691 dL_law_2691 ?_
            refine x_aload_n C 2692 1 dL_law_2692 rfl ?_
            refine x_iload C 2693 12 dL_law_2693 rfl ?_
            refine x_iconst C 2695 dL_law_2695 ki_1 ?_
            refine Y_bnd2 (fun r2696 s_2696 h2696 => ?_)
            refine x_callLV C 2696 [.int v18_2607, .int (1 : Int32)] [.int (r2680 - r2688)] rfl tw_917 mv_X8_copy rfl (Nat.le_of_ble_eq_true rfl) (Nat.le_of_ble_eq_true rfl) (Nat.le_of_ble_eq_true rfl) dL_law_2696 (c_X8_copy V _ _ _ _ h2696) ?_
            refine x_aload_n C 2699 1 dL_law_2699 rfl ?_
            refine x_iload C 2700 12 dL_law_2700 rfl ?_
            refine x_iload C 2702 10 dL_law_2702 rfl ?_
            refine Y_bnd1 (fun r2704 h2704 => ?_)
            refine x_callLV C 2704 [.int v18_2607, .int v12_2604] [.int r2696, .int (r2680 - r2688)] rfl tw_967 mv_X8_lacks rfl (Nat.le_of_ble_eq_true rfl) (Nat.le_of_ble_eq_true rfl) (Nat.le_of_ble_eq_true rfl) dL_law_2704 (c_X8_lacks V _ _ _ _ h2704) ?_
            refine x_isub C 2707 dL_law_2707 ?_
            refine x_icmp_ne C 2708 2750 dL_law_2708 (by decide) (fun _ => ?_) (fun _ => ?_)
            · refine Y_sub [0, 1, 2, 4, 5, 6, 7, 8, 9, 10, 11, 12] rfl ?_
              exact hJ2750 _ _
            · refine x_aload_n C 2711 1 dL_law_2711 rfl ?_
              refine x_iload C 2712 10 dL_law_2712 rfl ?_
              refine x_iload C 2714 12 dL_law_2714 rfl ?_
              refine Y_bnd1 (fun r2716 h2716 => ?_)
              refine x_callLV C 2716 [.int v12_2604, .int v18_2607] [] rfl tw_984 mv_X8_alike rfl (Nat.le_of_ble_eq_true rfl) (Nat.le_of_ble_eq_true rfl) (Nat.le_of_ble_eq_true rfl) dL_law_2716 (c_X8_alike V _ _ _ _ h2716) ?_
              have hJ2746 : ∀ (σ_2746 : Wd) (v18_2746 : Int32), Y K (Zl V A q) (M_L_law_J2746 q σ_2746 v6_1951 v7_1951 r1955 r1962 r1970 r1977 v12_2604 v13_2604 v18_2746) E2607 σ_2746 2746 [(1, .ref (A 0)), (3, .ref (zA (Zl V A q) 0)), (4, .ref (A 1)), (6, .int v6_1951), (7, .int v7_1951), (8, .int r1955), (9, .int r1962), (10, .int r1970), (11, .int r1977), (12, .int v12_2604), (13, .int v13_2604), (18, .int v18_2746)] [] := c_LJ2746 C hNW hN R hJ2751
              refine x_if_eq C 2719 2746 dL_law_2719 (by decide) (fun _ => ?_) (fun _ => ?_)
              · refine Y_sub [0, 1, 2, 4, 5, 6, 7, 8, 9, 10, 11, 12] rfl ?_
                exact hJ2746 _ _
              · refine x_aload_n C 2722 1 dL_law_2722 rfl ?_
                refine x_iload C 2723 10 dL_law_2723 rfl ?_
                refine x_iload C 2725 12 dL_law_2725 rfl ?_
                refine Y_bnd2 (fun r2727 s_2727 h2727 => ?_)
                refine x_callLV C 2727 [.int v12_2604, .int v18_2607] [] rfl tw_980 mv_X8_differ rfl (Nat.le_of_ble_eq_true rfl) (Nat.le_of_ble_eq_true rfl) (Nat.le_of_ble_eq_true rfl) dL_law_2727 (c_X8_differ V _ _ _ _ h2727) ?_
                refine x_if_ne C 2730 2750 dL_law_2730 (by decide) (fun _ => ?_) (fun _ => ?_)
                · refine Y_sub [0, 1, 2, 4, 5, 6, 7, 8, 9, 10, 11, 12] rfl ?_
                  exact hJ2750 _ _
                · refine x_aload_n C 2733 1 dL_law_2733 rfl ?_
                  refine x_iload C 2734 10 dL_law_2734 rfl ?_
                  refine x_iload C 2736 12 dL_law_2736 rfl ?_
                  refine Y_bnd2 (fun r2738 s_2738 h2738 => ?_)
                  refine x_callLV C 2738 [.int v12_2604, .int v18_2607] [] rfl tw_1008 mv_X8_fork rfl (Nat.le_of_ble_eq_true rfl) (Nat.le_of_ble_eq_true rfl) (Nat.le_of_ble_eq_true rfl) dL_law_2738 (c_X8_fork V _ _ _ _ h2738) ?_
                  refine x_iload C 2741 11 dL_law_2741 rfl ?_
                  refine x_icmp_ne C 2743 2750 dL_law_2743 (by decide) (fun _ => ?_) (fun _ => ?_)
                  · refine Y_sub [0, 1, 2, 4, 5, 6, 7, 8, 9, 10, 11, 12] rfl ?_
                    exact hJ2750 _ _
                  · refine Y_sub [0, 1, 2, 4, 5, 6, 7, 8, 9, 10, 11, 12] rfl ?_
                    exact hJ2746 _ _
set_option maxRecDepth 100000 in
set_option maxHeartbeats 40000000 in
theorem c_LJ2604 {V : Ct_V} {A : Nat → Nat} {q : Lq} {K : Kt} (C : Fx K (Zl V A q) cL_law RL 7 171) (hNW : ∀ w ∈ NWl, va_Nw w K.2.2.2.2.1) (hN : ∀ i, i < 30 → ∀ K2 : Kt, K = K2 → i < K2.2.2.2.2.2.2.2.2.2.2.1) (R : Lr K (Zl V A q)) {E1985 : ((Int32 × Int32 × Wd) ⊕ (Int32 × Wd)) → Prop} {r1955 : Int32} {r1962 : Int32} {r1970 : Int32} {r1977 : Int32} {v6_1951 : Int32} {v7_1951 : Int32} (hb1985 : ∀ s' : Int32 × Int32 × Wd, E1985 (.inl s') → Go K (Zl V A q) ((fun s : Int32 × Int32 × Wd => s.2.2) s') 1985 ((fun s : Int32 × Int32 × Wd => [(1, .ref (A 0)), (3, .ref (zA (Zl V A q) 0)), (4, .ref (A 1)), (5, .int s.1), (6, .int v6_1951), (7, .int v7_1951), (8, .int r1955), (9, .int r1962), (10, .int r1970), (11, .int r1977), (12, .int s.2.1)]) s') []) : ∀ (σ_2604 : Wd) (v5_2604 : Int32) (v12_2604 : Int32) (v13_2604 : Int32), Y K (Zl V A q) (M_L_law_J2604 q σ_2604 v5_2604 v6_1951 v7_1951 r1955 r1962 r1970 r1977 v12_2604 v13_2604) E1985 σ_2604 2604 [(1, .ref (A 0)), (3, .ref (zA (Zl V A q) 0)), (4, .ref (A 1)), (5, .int v5_2604), (6, .int v6_1951), (7, .int v7_1951), (8, .int r1955), (9, .int r1962), (10, .int r1970), (11, .int r1977), (12, .int v12_2604), (13, .int v13_2604)] [] := by
  intro σ_2604 v5_2604 v12_2604 v13_2604
  unfold M_L_law_J2604
  refine x_iconst C 2604 dL_law_2604 ki_0 ?_
  refine x_istore C 2605 (L' := [(18, .int (0 : Int32)), (1, .ref (A 0)), (3, .ref (zA (Zl V A q) 0)), (4, .ref (A 1)), (5, .int v5_2604), (6, .int v6_1951), (7, .int v7_1951), (8, .int r1955), (9, .int r1962), (10, .int r1970), (11, .int r1977), (12, .int v12_2604), (13, .int v13_2604)]) dL_law_2605 (hN _ (Nat.le_of_ble_eq_true rfl)) rfl ?_
  have hJ2759 : ∀ (σ_2759 : Wd) (v5_2759 : Int32) (v12_2759 : Int32), Y K (Zl V A q) (M_L_law_J2759 q σ_2759 v5_2759 v6_1951 v7_1951 r1955 r1962 r1970 r1977 v12_2759) E1985 σ_2759 2759 [(1, .ref (A 0)), (3, .ref (zA (Zl V A q) 0)), (4, .ref (A 1)), (5, .int v5_2759), (6, .int v6_1951), (7, .int v7_1951), (8, .int r1955), (9, .int r1962), (10, .int r1970), (11, .int r1977), (12, .int v12_2759)] [] := c_LJ2759 C hNW hN R hb1985
  refine Y_sub [1, 2, 3, 4, 5, 6, 7, 8, 9, 10, 11, 12, 0] rfl ?_
  refine x_loop 2607 (fun s : Int32 × Int32 × Wd => s.2.2) (fun s : Int32 × Int32 × Wd => [(1, .ref (A 0)), (3, .ref (zA (Zl V A q) 0)), (4, .ref (A 1)), (5, .int s.1), (6, .int v6_1951), (7, .int v7_1951), (8, .int r1955), (9, .int r1962), (10, .int r1970), (11, .int r1977), (12, .int v12_2604), (13, .int v13_2604), (18, .int s.2.1)]) (fun E2607 hb2607 hx2607 s => ?_) FU (v5_2604, (0 : Int32), σ_2604)
  obtain ⟨v5_2607, v18_2607, s_2607⟩ := s
  exact c_LL2607 C hNW hN R hx2607 hJ2759 hb2607 v5_2607 v18_2607 s_2607
set_option maxRecDepth 100000 in
set_option maxHeartbeats 40000000 in
theorem c_LJ2596 {V : Ct_V} {A : Nat → Nat} {q : Lq} {K : Kt} (C : Fx K (Zl V A q) cL_law RL 7 171) (hNW : ∀ w ∈ NWl, va_Nw w K.2.2.2.2.1) (hN : ∀ i, i < 30 → ∀ K2 : Kt, K = K2 → i < K2.2.2.2.2.2.2.2.2.2.2.1) (R : Lr K (Zl V A q)) {E2458 : ((Int32 × Int32 × Wd) ⊕ (Int32 × Wd)) → Prop} {r1955 : Int32} {r1962 : Int32} {r1970 : Int32} {r1977 : Int32} {v12_2453 : Int32} {v13_2453 : Int32} {v6_1951 : Int32} {v7_1951 : Int32} (hb2458 : ∀ s' : Int32 × Int32 × Wd, E2458 (.inl s') → Go K (Zl V A q) ((fun s : Int32 × Int32 × Wd => s.2.2) s') 2458 ((fun s : Int32 × Int32 × Wd => [(1, .ref (A 0)), (3, .ref (zA (Zl V A q) 0)), (4, .ref (A 1)), (5, .int s.1), (6, .int v6_1951), (7, .int v7_1951), (8, .int r1955), (9, .int r1962), (10, .int r1970), (11, .int r1977), (12, .int v12_2453), (13, .int v13_2453), (18, .int s.2.1)]) s') []) : ∀ (σ_2596 : Wd) (v18_2596 : Int32) (t0_2596 : Int32), Y K (Zl V A q) (M_L_law_J2596 q σ_2596 v6_1951 v7_1951 r1955 r1962 r1970 r1977 v12_2453 v13_2453 v18_2596 t0_2596) E2458 σ_2596 2596 [(1, .ref (A 0)), (3, .ref (zA (Zl V A q) 0)), (4, .ref (A 1)), (6, .int v6_1951), (7, .int v7_1951), (8, .int r1955), (9, .int r1962), (10, .int r1970), (11, .int r1977), (12, .int v12_2453), (13, .int v13_2453), (18, .int v18_2596)] [.int t0_2596] := by
  intro σ_2596 v18_2596 t0_2596
  unfold M_L_law_J2596
  refine x_istore C 2596 (L' := [(5, .int t0_2596), (1, .ref (A 0)), (3, .ref (zA (Zl V A q) 0)), (4, .ref (A 1)), (6, .int v6_1951), (7, .int v7_1951), (8, .int r1955), (9, .int r1962), (10, .int r1970), (11, .int r1977), (12, .int v12_2453), (13, .int v13_2453), (18, .int v18_2596)]) dL_law_2596 (hN _ (Nat.le_of_ble_eq_true rfl)) rfl ?_
  refine x_iinct C 2598 12 (1 : Int32) (fun v18_2598 => [(18, .int v18_2598), (5, .int t0_2596), (1, .ref (A 0)), (3, .ref (zA (Zl V A q) 0)), (4, .ref (A 1)), (6, .int v6_1951), (7, .int v7_1951), (8, .int r1955), (9, .int r1962), (10, .int r1970), (11, .int r1977), (12, .int v12_2453), (13, .int v13_2453)]) dL_law_2598 rfl ki_1 (hN _ (Nat.le_of_ble_eq_true rfl)) (fun _ => rfl) (fun v18_2598 => ?_)
  refine x_goto C 2601 2458 dL_law_2601 (by decide) ?_
  refine Y_sub [2, 3, 4, 1, 5, 6, 7, 8, 9, 10, 11, 12, 0] rfl ?_
  exact x_back (t0_2596, v18_2598, σ_2596) (hb2458 (t0_2596, v18_2598, σ_2596))
set_option maxRecDepth 100000 in
set_option maxHeartbeats 40000000 in
theorem c_LJ2595 {V : Ct_V} {A : Nat → Nat} {q : Lq} {K : Kt} (C : Fx K (Zl V A q) cL_law RL 7 171) (hNW : ∀ w ∈ NWl, va_Nw w K.2.2.2.2.1) (hN : ∀ i, i < 30 → ∀ K2 : Kt, K = K2 → i < K2.2.2.2.2.2.2.2.2.2.2.1) (R : Lr K (Zl V A q)) {E2458 : ((Int32 × Int32 × Wd) ⊕ (Int32 × Wd)) → Prop} {r1955 : Int32} {r1962 : Int32} {r1970 : Int32} {r1977 : Int32} {v12_2453 : Int32} {v13_2453 : Int32} {v6_1951 : Int32} {v7_1951 : Int32} (hJ2596 : ∀ (σ_2596 : Wd) (v18_2596 : Int32) (t0_2596 : Int32), Y K (Zl V A q) (M_L_law_J2596 q σ_2596 v6_1951 v7_1951 r1955 r1962 r1970 r1977 v12_2453 v13_2453 v18_2596 t0_2596) E2458 σ_2596 2596 [(1, .ref (A 0)), (3, .ref (zA (Zl V A q) 0)), (4, .ref (A 1)), (6, .int v6_1951), (7, .int v7_1951), (8, .int r1955), (9, .int r1962), (10, .int r1970), (11, .int r1977), (12, .int v12_2453), (13, .int v13_2453), (18, .int v18_2596)] [.int t0_2596]) : ∀ (σ_2595 : Wd) (v18_2595 : Int32), Y K (Zl V A q) (M_L_law_J2595 q σ_2595 v6_1951 v7_1951 r1955 r1962 r1970 r1977 v12_2453 v13_2453 v18_2595) E2458 σ_2595 2595 [(1, .ref (A 0)), (3, .ref (zA (Zl V A q) 0)), (4, .ref (A 1)), (6, .int v6_1951), (7, .int v7_1951), (8, .int r1955), (9, .int r1962), (10, .int r1970), (11, .int r1977), (12, .int v12_2453), (13, .int v13_2453), (18, .int v18_2595)] [] := by
  intro σ_2595 v18_2595
  unfold M_L_law_J2595
  refine x_iconst C 2595 dL_law_2595 ki_0 ?_
  exact hJ2596 _ _ _
set_option maxRecDepth 100000 in
set_option maxHeartbeats 40000000 in
theorem c_LJ2591 {V : Ct_V} {A : Nat → Nat} {q : Lq} {K : Kt} (C : Fx K (Zl V A q) cL_law RL 7 171) (hNW : ∀ w ∈ NWl, va_Nw w K.2.2.2.2.1) (hN : ∀ i, i < 30 → ∀ K2 : Kt, K = K2 → i < K2.2.2.2.2.2.2.2.2.2.2.1) (R : Lr K (Zl V A q)) {E2458 : ((Int32 × Int32 × Wd) ⊕ (Int32 × Wd)) → Prop} {r1955 : Int32} {r1962 : Int32} {r1970 : Int32} {r1977 : Int32} {v12_2453 : Int32} {v13_2453 : Int32} {v6_1951 : Int32} {v7_1951 : Int32} (hJ2596 : ∀ (σ_2596 : Wd) (v18_2596 : Int32) (t0_2596 : Int32), Y K (Zl V A q) (M_L_law_J2596 q σ_2596 v6_1951 v7_1951 r1955 r1962 r1970 r1977 v12_2453 v13_2453 v18_2596 t0_2596) E2458 σ_2596 2596 [(1, .ref (A 0)), (3, .ref (zA (Zl V A q) 0)), (4, .ref (A 1)), (6, .int v6_1951), (7, .int v7_1951), (8, .int r1955), (9, .int r1962), (10, .int r1970), (11, .int r1977), (12, .int v12_2453), (13, .int v13_2453), (18, .int v18_2596)] [.int t0_2596]) : ∀ (σ_2591 : Wd) (v18_2591 : Int32), Y K (Zl V A q) (M_L_law_J2591 q σ_2591 v6_1951 v7_1951 r1955 r1962 r1970 r1977 v12_2453 v13_2453 v18_2591) E2458 σ_2591 2591 [(1, .ref (A 0)), (3, .ref (zA (Zl V A q) 0)), (4, .ref (A 1)), (6, .int v6_1951), (7, .int v7_1951), (8, .int r1955), (9, .int r1962), (10, .int r1970), (11, .int r1977), (12, .int v12_2453), (13, .int v13_2453), (18, .int v18_2591)] [] := by
  intro σ_2591 v18_2591
  unfold M_L_law_J2591
  refine x_iconst C 2591 dL_law_2591 ki_1 ?_
  refine x_goto C 2592 2596 dL_law_2592 (by decide) ?_
  exact hJ2596 _ _ _
set_option maxRecDepth 100000 in
set_option maxHeartbeats 40000000 in
theorem c_LJ2574 {V : Ct_V} {A : Nat → Nat} {q : Lq} {K : Kt} (C : Fx K (Zl V A q) cL_law RL 7 171) (hNW : ∀ w ∈ NWl, va_Nw w K.2.2.2.2.1) (hN : ∀ i, i < 30 → ∀ K2 : Kt, K = K2 → i < K2.2.2.2.2.2.2.2.2.2.2.1) (R : Lr K (Zl V A q)) {E2458 : ((Int32 × Int32 × Wd) ⊕ (Int32 × Wd)) → Prop} {r1955 : Int32} {r1962 : Int32} {r1970 : Int32} {r1977 : Int32} {v12_2453 : Int32} {v13_2453 : Int32} {v6_1951 : Int32} {v7_1951 : Int32} (hJ2596 : ∀ (σ_2596 : Wd) (v18_2596 : Int32) (t0_2596 : Int32), Y K (Zl V A q) (M_L_law_J2596 q σ_2596 v6_1951 v7_1951 r1955 r1962 r1970 r1977 v12_2453 v13_2453 v18_2596 t0_2596) E2458 σ_2596 2596 [(1, .ref (A 0)), (3, .ref (zA (Zl V A q) 0)), (4, .ref (A 1)), (6, .int v6_1951), (7, .int v7_1951), (8, .int r1955), (9, .int r1962), (10, .int r1970), (11, .int r1977), (12, .int v12_2453), (13, .int v13_2453), (18, .int v18_2596)] [.int t0_2596]) (hJ2595 : ∀ (σ_2595 : Wd) (v18_2595 : Int32), Y K (Zl V A q) (M_L_law_J2595 q σ_2595 v6_1951 v7_1951 r1955 r1962 r1970 r1977 v12_2453 v13_2453 v18_2595) E2458 σ_2595 2595 [(1, .ref (A 0)), (3, .ref (zA (Zl V A q) 0)), (4, .ref (A 1)), (6, .int v6_1951), (7, .int v7_1951), (8, .int r1955), (9, .int r1962), (10, .int r1970), (11, .int r1977), (12, .int v12_2453), (13, .int v13_2453), (18, .int v18_2595)] []) : ∀ (σ_2574 : Wd) (v18_2574 : Int32) (v19_2574 : Int32), Y K (Zl V A q) (M_L_law_J2574 q σ_2574 v6_1951 v7_1951 r1955 r1962 r1970 r1977 v12_2453 v13_2453 v18_2574 v19_2574) E2458 σ_2574 2574 [(1, .ref (A 0)), (3, .ref (zA (Zl V A q) 0)), (4, .ref (A 1)), (6, .int v6_1951), (7, .int v7_1951), (8, .int r1955), (9, .int r1962), (10, .int r1970), (11, .int r1977), (12, .int v12_2453), (13, .int v13_2453), (18, .int v18_2574), (19, .int v19_2574)] [] := by
  intro σ_2574 v18_2574 v19_2574
  unfold M_L_law_J2574
  refine x_iload C 2574 12 dL_law_2574 rfl ?_
  have hJ2591 : ∀ (σ_2591 : Wd) (v18_2591 : Int32), Y K (Zl V A q) (M_L_law_J2591 q σ_2591 v6_1951 v7_1951 r1955 r1962 r1970 r1977 v12_2453 v13_2453 v18_2591) E2458 σ_2591 2591 [(1, .ref (A 0)), (3, .ref (zA (Zl V A q) 0)), (4, .ref (A 1)), (6, .int v6_1951), (7, .int v7_1951), (8, .int r1955), (9, .int r1962), (10, .int r1970), (11, .int r1977), (12, .int v12_2453), (13, .int v13_2453), (18, .int v18_2591)] [] := c_LJ2591 C hNW hN R hJ2596
  refine x_if_lt C 2576 2591 dL_law_2576 (by decide) (fun _ => ?_) (fun _ => ?_)
  · refine Y_sub [0, 1, 2, 3, 4, 5, 6, 7, 8, 9, 10, 11] rfl ?_
    exact hJ2591 _ _
  · refine x_aload_n C 2579 1 dL_law_2579 rfl ?_
    refine x_iload C 2580 9 dL_law_2580 rfl ?_
    refine x_iload C 2582 12 dL_law_2582 rfl ?_
    refine Y_bnd2 (fun r2584 s_2584 h2584 => ?_)
    refine x_callLV C 2584 [.int v12_2453, .int v19_2574] [] rfl tw_879 mv_X8_outcome rfl (Nat.le_of_ble_eq_true rfl) (Nat.le_of_ble_eq_true rfl) (Nat.le_of_ble_eq_true rfl) dL_law_2584 (c_X8_outcome V _ _ _ _ h2584) ?_
    refine x_iconst C 2587 dL_law_2587 ki_2 ?_
    refine x_icmp_ge C 2588 2595 dL_law_2588 (by decide) (fun _ => ?_) (fun _ => ?_)
    · refine Y_sub [0, 1, 2, 3, 4, 5, 6, 7, 8, 9, 10, 11] rfl ?_
      exact hJ2595 _ _
    · refine Y_sub [0, 1, 2, 3, 4, 5, 6, 7, 8, 9, 10, 11] rfl ?_
      exact hJ2591 _ _
