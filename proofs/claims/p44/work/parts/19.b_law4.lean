/-! the law: the machine does what the program tells -/
set_option maxRecDepth 100000 in
set_option maxHeartbeats 40000000 in
theorem c_LJ842 {V : Ct_V} {A : Nat → Nat} {q : Lq} {K : Kt} (C : Fx K (Zl V A q) cL_law RL 7 171) (hNW : ∀ w ∈ NWl, va_Nw w K.2.2.2.2.1) (hN : ∀ i, i < 30 → ∀ K2 : Kt, K = K2 → i < K2.2.2.2.2.2.2.2.2.2.2.1) (R : Lr K (Zl V A q)) {E120 : ((Int32 × Int32 × Wd) ⊕ (Int32 × Wd)) → Prop} {v6_107 : Int32} {v7_114 : Int32} (hJ1410 : ∀ (σ_1410 : Wd) (v5_1410 : Int32) (v8_1410 : Int32) (v9_1410 : Int32) (v10_1410 : Int32) (v12_1410 : Int32) (v13_1410 : Int32) (v14_1410 : Int32) (v15_1410 : Int32) (v16_1410 : Int32) (v17_1410 : Int32) (v18_1410 : Int32) (v19_1410 : Int32) (v20_1410 : Int32) (v21_1410 : Int32) (v23_1410 : Int32), Y K (Zl V A q) (M_L_law_J1410 q σ_1410 v5_1410 v6_107 v7_114 v8_1410 v9_1410 v10_1410 v12_1410 v13_1410 v14_1410 v15_1410 v16_1410 v17_1410 v18_1410 v19_1410 v20_1410 v21_1410 v23_1410) E120 σ_1410 1410 [(1, .ref (A 0)), (3, .ref (zA (Zl V A q) 0)), (4, .ref (A 1)), (5, .int v5_1410), (6, .int v6_107), (7, .int v7_114), (8, .int v8_1410), (9, .int v9_1410), (10, .int v10_1410), (12, .int v12_1410), (13, .int v13_1410), (14, .int v14_1410), (15, .int v15_1410), (16, .int v16_1410), (17, .int v17_1410), (18, .int v18_1410), (19, .int v19_1410), (20, .int v20_1410), (21, .int v21_1410), (23, .int v23_1410)] []) : ∀ (σ_842 : Wd) (v8_842 : Int32) (v9_842 : Int32) (v10_842 : Int32) (v11_842 : Int32) (v12_842 : Int32) (v13_842 : Int32) (v14_842 : Int32) (v15_842 : Int32) (v16_842 : Int32) (v17_842 : Int32) (v18_842 : Int32) (v19_842 : Int32) (v20_842 : Int32) (v21_842 : Int32) (v23_842 : Int32) (v26_842 : Int32) (v27_842 : Int32) (t0_842 : Int32) (t1_842 : Int32), Y K (Zl V A q) (M_L_law_J842 q σ_842 v6_107 v7_114 v8_842 v9_842 v10_842 v11_842 v12_842 v13_842 v14_842 v15_842 v16_842 v17_842 v18_842 v19_842 v20_842 v21_842 v23_842 v26_842 v27_842 t0_842 t1_842) E120 σ_842 842 [(1, .ref (A 0)), (3, .ref (zA (Zl V A q) 0)), (4, .ref (A 1)), (6, .int v6_107), (7, .int v7_114), (8, .int v8_842), (9, .int v9_842), (10, .int v10_842), (11, .int v11_842), (12, .int v12_842), (13, .int v13_842), (14, .int v14_842), (15, .int v15_842), (16, .int v16_842), (17, .int v17_842), (18, .int v18_842), (19, .int v19_842), (20, .int v20_842), (21, .int v21_842), (23, .int v23_842), (26, .int v26_842), (27, .int v27_842)] [.int t0_842, .int t1_842] := by
  intro σ_842 v8_842 v9_842 v10_842 v11_842 v12_842 v13_842 v14_842 v15_842 v16_842 v17_842 v18_842 v19_842 v20_842 v21_842 v23_842 v26_842 v27_842 t0_842 t1_842
  unfold M_L_law_J842
  have hJ901 : ∀ (σ_901 : Wd) (v8_901 : Int32) (v9_901 : Int32) (v10_901 : Int32) (v11_901 : Int32) (v12_901 : Int32) (v13_901 : Int32) (v14_901 : Int32) (v15_901 : Int32) (v16_901 : Int32) (v17_901 : Int32) (v18_901 : Int32) (v19_901 : Int32) (v20_901 : Int32) (v21_901 : Int32) (v23_901 : Int32) (v27_901 : Int32) (t0_901 : Int32), Y K (Zl V A q) (M_L_law_J901 q σ_901 v6_107 v7_114 v8_901 v9_901 v10_901 v11_901 v12_901 v13_901 v14_901 v15_901 v16_901 v17_901 v18_901 v19_901 v20_901 v21_901 v23_901 v27_901 t0_901) E120 σ_901 901 [(1, .ref (A 0)), (3, .ref (zA (Zl V A q) 0)), (4, .ref (A 1)), (6, .int v6_107), (7, .int v7_114), (8, .int v8_901), (9, .int v9_901), (10, .int v10_901), (11, .int v11_901), (12, .int v12_901), (13, .int v13_901), (14, .int v14_901), (15, .int v15_901), (16, .int v16_901), (17, .int v17_901), (18, .int v18_901), (19, .int v19_901), (20, .int v20_901), (21, .int v21_901), (23, .int v23_901), (27, .int v27_901)] [.int t0_901] := c_LJ901 C hNW hN R hJ1410
  have hJ900 : ∀ (σ_900 : Wd) (v8_900 : Int32) (v9_900 : Int32) (v10_900 : Int32) (v11_900 : Int32) (v12_900 : Int32) (v13_900 : Int32) (v14_900 : Int32) (v15_900 : Int32) (v16_900 : Int32) (v17_900 : Int32) (v18_900 : Int32) (v19_900 : Int32) (v20_900 : Int32) (v21_900 : Int32) (v23_900 : Int32) (v27_900 : Int32), Y K (Zl V A q) (M_L_law_J900 q σ_900 v6_107 v7_114 v8_900 v9_900 v10_900 v11_900 v12_900 v13_900 v14_900 v15_900 v16_900 v17_900 v18_900 v19_900 v20_900 v21_900 v23_900 v27_900) E120 σ_900 900 [(1, .ref (A 0)), (3, .ref (zA (Zl V A q) 0)), (4, .ref (A 1)), (6, .int v6_107), (7, .int v7_114), (8, .int v8_900), (9, .int v9_900), (10, .int v10_900), (11, .int v11_900), (12, .int v12_900), (13, .int v13_900), (14, .int v14_900), (15, .int v15_900), (16, .int v16_900), (17, .int v17_900), (18, .int v18_900), (19, .int v19_900), (20, .int v20_900), (21, .int v21_900), (23, .int v23_900), (27, .int v27_900)] [] := c_LJ900 C hNW hN R hJ901
  refine x_icmp_ne C 842 900 dL_law_842 (by decide) (fun _ => ?_) (fun _ => ?_)
  · refine Y_sub [0, 1, 2, 3, 4, 5, 6, 7, 8, 9, 10, 11, 12, 13, 14, 15, 16, 17, 18, 19, 21] rfl ?_
    exact hJ900 _ _ _ _ _ _ _ _ _ _ _ _ _ _ _ _ _
  · refine x_iload C 845 21 dL_law_845 rfl ?_
    refine x_iconst C 847 dL_law_847 ki_1 ?_
    have hJ862 : ∀ (σ_862 : Wd) (v8_862 : Int32) (v9_862 : Int32) (v10_862 : Int32) (v11_862 : Int32) (v12_862 : Int32) (v13_862 : Int32) (v14_862 : Int32) (v15_862 : Int32) (v16_862 : Int32) (v17_862 : Int32) (v18_862 : Int32) (v19_862 : Int32) (v20_862 : Int32) (v21_862 : Int32) (v23_862 : Int32) (v27_862 : Int32), Y K (Zl V A q) (M_L_law_J862 q σ_862 v6_107 v7_114 v8_862 v9_862 v10_862 v11_862 v12_862 v13_862 v14_862 v15_862 v16_862 v17_862 v18_862 v19_862 v20_862 v21_862 v23_862 v27_862) E120 σ_862 862 [(1, .ref (A 0)), (3, .ref (zA (Zl V A q) 0)), (4, .ref (A 1)), (6, .int v6_107), (7, .int v7_114), (8, .int v8_862), (9, .int v9_862), (10, .int v10_862), (11, .int v11_862), (12, .int v12_862), (13, .int v13_862), (14, .int v14_862), (15, .int v15_862), (16, .int v16_862), (17, .int v17_862), (18, .int v18_862), (19, .int v19_862), (20, .int v20_862), (21, .int v21_862), (23, .int v23_862), (27, .int v27_862)] [] := c_LJ862 C hNW hN R hJ901 hJ900
    refine x_icmp_ne C 848 862 dL_law_848 (by decide) (fun _ => ?_) (fun _ => ?_)
    · refine Y_sub [0, 1, 2, 3, 4, 5, 6, 7, 8, 9, 10, 11, 12, 13, 14, 15, 16, 17, 18, 19, 21] rfl ?_
      exact hJ862 _ _ _ _ _ _ _ _ _ _ _ _ _ _ _ _ _
    · refine x_aload_n C 851 1 dL_law_851 rfl ?_
      refine x_iload C 852 8 dL_law_852 rfl ?_
      refine Y_bnd1 (fun r854 h854 => ?_)
      refine x_callLV C 854 [.int v11_842] [] rfl tw_788 mv_X8_got rfl (Nat.le_of_ble_eq_true rfl) (Nat.le_of_ble_eq_true rfl) (Nat.le_of_ble_eq_true rfl) dL_law_854 (c_X8_got V _ _ _ h854) ?_
      refine x_iload C 857 20 dL_law_857 rfl ?_
      refine x_icmp_ne C 859 900 dL_law_859 (by decide) (fun _ => ?_) (fun _ => ?_)
      · refine Y_sub [0, 1, 2, 3, 4, 5, 6, 7, 8, 9, 10, 11, 12, 13, 14, 15, 16, 17, 18, 19, 21] rfl ?_
        exact hJ900 _ _ _ _ _ _ _ _ _ _ _ _ _ _ _ _ _
      · refine Y_sub [0, 1, 2, 3, 4, 5, 6, 7, 8, 9, 10, 11, 12, 13, 14, 15, 16, 17, 18, 19, 21] rfl ?_
        exact hJ862 _ _ _ _ _ _ _ _ _ _ _ _ _ _ _ _ _
set_option maxRecDepth 100000 in
set_option maxHeartbeats 40000000 in
theorem c_LJ799 {V : Ct_V} {A : Nat → Nat} {q : Lq} {K : Kt} (C : Fx K (Zl V A q) cL_law RL 7 171) (hNW : ∀ w ∈ NWl, va_Nw w K.2.2.2.2.1) (hN : ∀ i, i < 30 → ∀ K2 : Kt, K = K2 → i < K2.2.2.2.2.2.2.2.2.2.2.1) (R : Lr K (Zl V A q)) {E120 : ((Int32 × Int32 × Wd) ⊕ (Int32 × Wd)) → Prop} {v6_107 : Int32} {v7_114 : Int32} (hJ1410 : ∀ (σ_1410 : Wd) (v5_1410 : Int32) (v8_1410 : Int32) (v9_1410 : Int32) (v10_1410 : Int32) (v12_1410 : Int32) (v13_1410 : Int32) (v14_1410 : Int32) (v15_1410 : Int32) (v16_1410 : Int32) (v17_1410 : Int32) (v18_1410 : Int32) (v19_1410 : Int32) (v20_1410 : Int32) (v21_1410 : Int32) (v23_1410 : Int32), Y K (Zl V A q) (M_L_law_J1410 q σ_1410 v5_1410 v6_107 v7_114 v8_1410 v9_1410 v10_1410 v12_1410 v13_1410 v14_1410 v15_1410 v16_1410 v17_1410 v18_1410 v19_1410 v20_1410 v21_1410 v23_1410) E120 σ_1410 1410 [(1, .ref (A 0)), (3, .ref (zA (Zl V A q) 0)), (4, .ref (A 1)), (5, .int v5_1410), (6, .int v6_107), (7, .int v7_114), (8, .int v8_1410), (9, .int v9_1410), (10, .int v10_1410), (12, .int v12_1410), (13, .int v13_1410), (14, .int v14_1410), (15, .int v15_1410), (16, .int v16_1410), (17, .int v17_1410), (18, .int v18_1410), (19, .int v19_1410), (20, .int v20_1410), (21, .int v21_1410), (23, .int v23_1410)] []) : ∀ (σ_799 : Wd) (v8_799 : Int32) (v9_799 : Int32) (v10_799 : Int32) (v11_799 : Int32) (v12_799 : Int32) (v13_799 : Int32) (v14_799 : Int32) (v15_799 : Int32) (v16_799 : Int32) (v17_799 : Int32) (v18_799 : Int32) (v19_799 : Int32) (v20_799 : Int32) (v21_799 : Int32) (v24_799 : Int32) (v25_799 : Int32) (t0_799 : Int32), Y K (Zl V A q) (M_L_law_J799 q σ_799 v6_107 v7_114 v8_799 v9_799 v10_799 v11_799 v12_799 v13_799 v14_799 v15_799 v16_799 v17_799 v18_799 v19_799 v20_799 v21_799 v24_799 v25_799 t0_799) E120 σ_799 799 [(1, .ref (A 0)), (3, .ref (zA (Zl V A q) 0)), (4, .ref (A 1)), (6, .int v6_107), (7, .int v7_114), (8, .int v8_799), (9, .int v9_799), (10, .int v10_799), (11, .int v11_799), (12, .int v12_799), (13, .int v13_799), (14, .int v14_799), (15, .int v15_799), (16, .int v16_799), (17, .int v17_799), (18, .int v18_799), (19, .int v19_799), (20, .int v20_799), (21, .int v21_799), (24, .int v24_799), (25, .int v25_799)] [.int t0_799] := by
  intro σ_799 v8_799 v9_799 v10_799 v11_799 v12_799 v13_799 v14_799 v15_799 v16_799 v17_799 v18_799 v19_799 v20_799 v21_799 v24_799 v25_799 t0_799
  unfold M_L_law_J799
  refine x_istore C 799 (L' := [(23, .int t0_799), (1, .ref (A 0)), (3, .ref (zA (Zl V A q) 0)), (4, .ref (A 1)), (6, .int v6_107), (7, .int v7_114), (8, .int v8_799), (9, .int v9_799), (10, .int v10_799), (11, .int v11_799), (12, .int v12_799), (13, .int v13_799), (14, .int v14_799), (15, .int v15_799), (16, .int v16_799), (17, .int v17_799), (18, .int v18_799), (19, .int v19_799), (20, .int v20_799), (21, .int v21_799), (24, .int v24_799), (25, .int v25_799)]) dL_law_799 (hN _ (Nat.le_of_ble_eq_true rfl)) rfl ?_
  refine x_aload_n C 801 2 dL_law_801 rfl ?_
  refine x_iload C 802 7 dL_law_802 rfl ?_
  refine x_iload C 804 20 dL_law_804 rfl ?_
  refine x_iconst C 806 dL_law_806 ki_0 ?_
  refine Y_bnd2 (fun r807 s_807 h807 => ?_)
  refine x_callLV C 807 [.int v9_799, .int v24_799, .int (0 : Int32)] [] rfl tw_869 mv_X8_cell rfl (Nat.le_of_ble_eq_true rfl) (Nat.le_of_ble_eq_true rfl) (Nat.le_of_ble_eq_true rfl) dL_law_807 (c_X8_cell V _ _ _ _ _ h807) ?_
  refine x_istore C 810 (L' := [(26, .int r807), (23, .int t0_799), (1, .ref (A 0)), (3, .ref (zA (Zl V A q) 0)), (4, .ref (A 1)), (6, .int v6_107), (7, .int v7_114), (8, .int v8_799), (9, .int v9_799), (10, .int v10_799), (11, .int v11_799), (12, .int v12_799), (13, .int v13_799), (14, .int v14_799), (15, .int v15_799), (16, .int v16_799), (17, .int v17_799), (18, .int v18_799), (19, .int v19_799), (20, .int v20_799), (21, .int v21_799), (24, .int v24_799), (25, .int v25_799)]) dL_law_810 (hN _ (Nat.le_of_ble_eq_true rfl)) rfl ?_
  refine x_aload_n C 812 3 dL_law_812 rfl ?_
  refine x_iload C 813 10 dL_law_813 rfl ?_
  refine x_iload C 815 8 dL_law_815 rfl ?_
  refine x_iload C 817 21 dL_law_817 rfl ?_
  refine Y_bnd2 (fun r819 s_819 h819 => ?_)
  refine x_callLV C 819 [.int v11_799, .int v9_799, .int v24_799] [] rfl tw_732 mv_X8_ask rfl (Nat.le_of_ble_eq_true rfl) (Nat.le_of_ble_eq_true rfl) (Nat.le_of_ble_eq_true rfl) dL_law_819 (c_X8_ask V _ _ _ _ _ h819) ?_
  refine x_istore C 822 (L' := [(27, .int r819), (26, .int r807), (23, .int t0_799), (1, .ref (A 0)), (3, .ref (zA (Zl V A q) 0)), (4, .ref (A 1)), (6, .int v6_107), (7, .int v7_114), (8, .int v8_799), (9, .int v9_799), (10, .int v10_799), (11, .int v11_799), (12, .int v12_799), (13, .int v13_799), (14, .int v14_799), (15, .int v15_799), (16, .int v16_799), (17, .int v17_799), (18, .int v18_799), (19, .int v19_799), (20, .int v20_799), (21, .int v21_799), (24, .int v24_799), (25, .int v25_799)]) dL_law_822 (hN _ (Nat.le_of_ble_eq_true rfl)) rfl ?_
  refine x_iload C 824 0 dL_law_824 rfl ?_
  refine x_iload C 826 2 dL_law_826 rfl ?_
  have hJ842 : ∀ (σ_842 : Wd) (v8_842 : Int32) (v9_842 : Int32) (v10_842 : Int32) (v11_842 : Int32) (v12_842 : Int32) (v13_842 : Int32) (v14_842 : Int32) (v15_842 : Int32) (v16_842 : Int32) (v17_842 : Int32) (v18_842 : Int32) (v19_842 : Int32) (v20_842 : Int32) (v21_842 : Int32) (v23_842 : Int32) (v26_842 : Int32) (v27_842 : Int32) (t0_842 : Int32) (t1_842 : Int32), Y K (Zl V A q) (M_L_law_J842 q σ_842 v6_107 v7_114 v8_842 v9_842 v10_842 v11_842 v12_842 v13_842 v14_842 v15_842 v16_842 v17_842 v18_842 v19_842 v20_842 v21_842 v23_842 v26_842 v27_842 t0_842 t1_842) E120 σ_842 842 [(1, .ref (A 0)), (3, .ref (zA (Zl V A q) 0)), (4, .ref (A 1)), (6, .int v6_107), (7, .int v7_114), (8, .int v8_842), (9, .int v9_842), (10, .int v10_842), (11, .int v11_842), (12, .int v12_842), (13, .int v13_842), (14, .int v14_842), (15, .int v15_842), (16, .int v16_842), (17, .int v17_842), (18, .int v18_842), (19, .int v19_842), (20, .int v20_842), (21, .int v21_842), (23, .int v23_842), (26, .int v26_842), (27, .int v27_842)] [.int t0_842, .int t1_842] := c_LJ842 C hNW hN R hJ1410
  refine x_if_eq C 828 841 dL_law_828 (by decide) (fun _ => ?_) (fun _ => ?_)
  · refine x_iconst C 841 dL_law_841 ki_m1 ?_
    refine Y_sub [3, 4, 5, 6, 7, 8, 9, 10, 11, 12, 13, 14, 15, 16, 17, 18, 19, 20, 21, 2, 1, 0] rfl ?_
    exact hJ842 _ _ _ _ _ _ _ _ _ _ _ _ _ _ _ _ _ _ _ _
  · refine x_iload C 831 23 dL_law_831 rfl ?_
    refine x_iload C 833 9 dL_law_833 rfl ?_
    refine x_ishr C 835 dL_law_835 ?_
    refine x_iconst C 836 dL_law_836 ki_1 ?_
    refine x_iand C 837 dL_law_837 ?_
    refine x_goto C 838 842 dL_law_838 (by decide) ?_
    refine Y_sub [3, 4, 5, 6, 7, 8, 9, 10, 11, 12, 13, 14, 15, 16, 17, 18, 19, 20, 21, 2, 1, 0] rfl ?_
    exact hJ842 _ _ _ _ _ _ _ _ _ _ _ _ _ _ _ _ _ _ _ _
set_option maxRecDepth 100000 in
set_option maxHeartbeats 40000000 in
theorem c_LJ798 {V : Ct_V} {A : Nat → Nat} {q : Lq} {K : Kt} (C : Fx K (Zl V A q) cL_law RL 7 171) (hNW : ∀ w ∈ NWl, va_Nw w K.2.2.2.2.1) (hN : ∀ i, i < 30 → ∀ K2 : Kt, K = K2 → i < K2.2.2.2.2.2.2.2.2.2.2.1) (R : Lr K (Zl V A q)) {E120 : ((Int32 × Int32 × Wd) ⊕ (Int32 × Wd)) → Prop} {v6_107 : Int32} {v7_114 : Int32} (hJ799 : ∀ (σ_799 : Wd) (v8_799 : Int32) (v9_799 : Int32) (v10_799 : Int32) (v11_799 : Int32) (v12_799 : Int32) (v13_799 : Int32) (v14_799 : Int32) (v15_799 : Int32) (v16_799 : Int32) (v17_799 : Int32) (v18_799 : Int32) (v19_799 : Int32) (v20_799 : Int32) (v21_799 : Int32) (v24_799 : Int32) (v25_799 : Int32) (t0_799 : Int32), Y K (Zl V A q) (M_L_law_J799 q σ_799 v6_107 v7_114 v8_799 v9_799 v10_799 v11_799 v12_799 v13_799 v14_799 v15_799 v16_799 v17_799 v18_799 v19_799 v20_799 v21_799 v24_799 v25_799 t0_799) E120 σ_799 799 [(1, .ref (A 0)), (3, .ref (zA (Zl V A q) 0)), (4, .ref (A 1)), (6, .int v6_107), (7, .int v7_114), (8, .int v8_799), (9, .int v9_799), (10, .int v10_799), (11, .int v11_799), (12, .int v12_799), (13, .int v13_799), (14, .int v14_799), (15, .int v15_799), (16, .int v16_799), (17, .int v17_799), (18, .int v18_799), (19, .int v19_799), (20, .int v20_799), (21, .int v21_799), (24, .int v24_799), (25, .int v25_799)] [.int t0_799]) : ∀ (σ_798 : Wd) (v8_798 : Int32) (v9_798 : Int32) (v10_798 : Int32) (v11_798 : Int32) (v12_798 : Int32) (v13_798 : Int32) (v14_798 : Int32) (v15_798 : Int32) (v16_798 : Int32) (v17_798 : Int32) (v18_798 : Int32) (v19_798 : Int32) (v20_798 : Int32) (v21_798 : Int32) (v24_798 : Int32) (v25_798 : Int32), Y K (Zl V A q) (M_L_law_J798 q σ_798 v6_107 v7_114 v8_798 v9_798 v10_798 v11_798 v12_798 v13_798 v14_798 v15_798 v16_798 v17_798 v18_798 v19_798 v20_798 v21_798 v24_798 v25_798) E120 σ_798 798 [(1, .ref (A 0)), (3, .ref (zA (Zl V A q) 0)), (4, .ref (A 1)), (6, .int v6_107), (7, .int v7_114), (8, .int v8_798), (9, .int v9_798), (10, .int v10_798), (11, .int v11_798), (12, .int v12_798), (13, .int v13_798), (14, .int v14_798), (15, .int v15_798), (16, .int v16_798), (17, .int v17_798), (18, .int v18_798), (19, .int v19_798), (20, .int v20_798), (21, .int v21_798), (24, .int v24_798), (25, .int v25_798)] [] := by
  intro σ_798 v8_798 v9_798 v10_798 v11_798 v12_798 v13_798 v14_798 v15_798 v16_798 v17_798 v18_798 v19_798 v20_798 v21_798 v24_798 v25_798
  unfold M_L_law_J798
  refine x_iconst C 798 dL_law_798 ki_0 ?_
  exact hJ799 _ _ _ _ _ _ _ _ _ _ _ _ _ _ _ _ _ _
set_option maxRecDepth 100000 in
set_option maxHeartbeats 40000000 in
theorem c_LJ1175 {V : Ct_V} {A : Nat → Nat} {q : Lq} {K : Kt} (C : Fx K (Zl V A q) cL_law RL 7 171) (hNW : ∀ w ∈ NWl, va_Nw w K.2.2.2.2.1) (hN : ∀ i, i < 30 → ∀ K2 : Kt, K = K2 → i < K2.2.2.2.2.2.2.2.2.2.2.1) (R : Lr K (Zl V A q)) {E120 : ((Int32 × Int32 × Wd) ⊕ (Int32 × Wd)) → Prop} {v6_107 : Int32} {v7_114 : Int32} (hJ1410 : ∀ (σ_1410 : Wd) (v5_1410 : Int32) (v8_1410 : Int32) (v9_1410 : Int32) (v10_1410 : Int32) (v12_1410 : Int32) (v13_1410 : Int32) (v14_1410 : Int32) (v15_1410 : Int32) (v16_1410 : Int32) (v17_1410 : Int32) (v18_1410 : Int32) (v19_1410 : Int32) (v20_1410 : Int32) (v21_1410 : Int32) (v23_1410 : Int32), Y K (Zl V A q) (M_L_law_J1410 q σ_1410 v5_1410 v6_107 v7_114 v8_1410 v9_1410 v10_1410 v12_1410 v13_1410 v14_1410 v15_1410 v16_1410 v17_1410 v18_1410 v19_1410 v20_1410 v21_1410 v23_1410) E120 σ_1410 1410 [(1, .ref (A 0)), (3, .ref (zA (Zl V A q) 0)), (4, .ref (A 1)), (5, .int v5_1410), (6, .int v6_107), (7, .int v7_114), (8, .int v8_1410), (9, .int v9_1410), (10, .int v10_1410), (12, .int v12_1410), (13, .int v13_1410), (14, .int v14_1410), (15, .int v15_1410), (16, .int v16_1410), (17, .int v17_1410), (18, .int v18_1410), (19, .int v19_1410), (20, .int v20_1410), (21, .int v21_1410), (23, .int v23_1410)] []) : ∀ (σ_1175 : Wd) (v8_1175 : Int32) (v9_1175 : Int32) (v10_1175 : Int32) (v12_1175 : Int32) (v13_1175 : Int32) (v14_1175 : Int32) (v15_1175 : Int32) (v16_1175 : Int32) (v17_1175 : Int32) (v18_1175 : Int32) (v19_1175 : Int32) (v20_1175 : Int32) (v21_1175 : Int32) (v23_1175 : Int32) (t0_1175 : Int32), Y K (Zl V A q) (M_L_law_J1175 q σ_1175 v6_107 v7_114 v8_1175 v9_1175 v10_1175 v12_1175 v13_1175 v14_1175 v15_1175 v16_1175 v17_1175 v18_1175 v19_1175 v20_1175 v21_1175 v23_1175 t0_1175) E120 σ_1175 1175 [(1, .ref (A 0)), (3, .ref (zA (Zl V A q) 0)), (4, .ref (A 1)), (6, .int v6_107), (7, .int v7_114), (8, .int v8_1175), (9, .int v9_1175), (10, .int v10_1175), (12, .int v12_1175), (13, .int v13_1175), (14, .int v14_1175), (15, .int v15_1175), (16, .int v16_1175), (17, .int v17_1175), (18, .int v18_1175), (19, .int v19_1175), (20, .int v20_1175), (21, .int v21_1175), (23, .int v23_1175)] [.int t0_1175] := by
  intro σ_1175 v8_1175 v9_1175 v10_1175 v12_1175 v13_1175 v14_1175 v15_1175 v16_1175 v17_1175 v18_1175 v19_1175 v20_1175 v21_1175 v23_1175 t0_1175
  unfold M_L_law_J1175
  refine x_istore C 1175 (L' := [(5, .int t0_1175), (1, .ref (A 0)), (3, .ref (zA (Zl V A q) 0)), (4, .ref (A 1)), (6, .int v6_107), (7, .int v7_114), (8, .int v8_1175), (9, .int v9_1175), (10, .int v10_1175), (12, .int v12_1175), (13, .int v13_1175), (14, .int v14_1175), (15, .int v15_1175), (16, .int v16_1175), (17, .int v17_1175), (18, .int v18_1175), (19, .int v19_1175), (20, .int v20_1175), (21, .int v21_1175), (23, .int v23_1175)]) dL_law_1175 (hN _ (Nat.le_of_ble_eq_true rfl)) rfl ?_
  refine x_goto C 1177 1410 dL_law_1177 (by decide) ?_
  refine Y_sub [1, 2, 3, 0, 4, 5, 6, 7, 8, 9, 10, 11, 12, 13, 14, 15, 16, 17, 18, 19] rfl ?_
  exact hJ1410 _ _ _ _ _ _ _ _ _ _ _ _ _ _ _ _
set_option maxRecDepth 100000 in
set_option maxHeartbeats 40000000 in
theorem c_LJ1174 {V : Ct_V} {A : Nat → Nat} {q : Lq} {K : Kt} (C : Fx K (Zl V A q) cL_law RL 7 171) (hNW : ∀ w ∈ NWl, va_Nw w K.2.2.2.2.1) (hN : ∀ i, i < 30 → ∀ K2 : Kt, K = K2 → i < K2.2.2.2.2.2.2.2.2.2.2.1) (R : Lr K (Zl V A q)) {E120 : ((Int32 × Int32 × Wd) ⊕ (Int32 × Wd)) → Prop} {v6_107 : Int32} {v7_114 : Int32} (hJ1175 : ∀ (σ_1175 : Wd) (v8_1175 : Int32) (v9_1175 : Int32) (v10_1175 : Int32) (v12_1175 : Int32) (v13_1175 : Int32) (v14_1175 : Int32) (v15_1175 : Int32) (v16_1175 : Int32) (v17_1175 : Int32) (v18_1175 : Int32) (v19_1175 : Int32) (v20_1175 : Int32) (v21_1175 : Int32) (v23_1175 : Int32) (t0_1175 : Int32), Y K (Zl V A q) (M_L_law_J1175 q σ_1175 v6_107 v7_114 v8_1175 v9_1175 v10_1175 v12_1175 v13_1175 v14_1175 v15_1175 v16_1175 v17_1175 v18_1175 v19_1175 v20_1175 v21_1175 v23_1175 t0_1175) E120 σ_1175 1175 [(1, .ref (A 0)), (3, .ref (zA (Zl V A q) 0)), (4, .ref (A 1)), (6, .int v6_107), (7, .int v7_114), (8, .int v8_1175), (9, .int v9_1175), (10, .int v10_1175), (12, .int v12_1175), (13, .int v13_1175), (14, .int v14_1175), (15, .int v15_1175), (16, .int v16_1175), (17, .int v17_1175), (18, .int v18_1175), (19, .int v19_1175), (20, .int v20_1175), (21, .int v21_1175), (23, .int v23_1175)] [.int t0_1175]) : ∀ (σ_1174 : Wd) (v8_1174 : Int32) (v9_1174 : Int32) (v10_1174 : Int32) (v12_1174 : Int32) (v13_1174 : Int32) (v14_1174 : Int32) (v15_1174 : Int32) (v16_1174 : Int32) (v17_1174 : Int32) (v18_1174 : Int32) (v19_1174 : Int32) (v20_1174 : Int32) (v21_1174 : Int32) (v23_1174 : Int32), Y K (Zl V A q) (M_L_law_J1174 q σ_1174 v6_107 v7_114 v8_1174 v9_1174 v10_1174 v12_1174 v13_1174 v14_1174 v15_1174 v16_1174 v17_1174 v18_1174 v19_1174 v20_1174 v21_1174 v23_1174) E120 σ_1174 1174 [(1, .ref (A 0)), (3, .ref (zA (Zl V A q) 0)), (4, .ref (A 1)), (6, .int v6_107), (7, .int v7_114), (8, .int v8_1174), (9, .int v9_1174), (10, .int v10_1174), (12, .int v12_1174), (13, .int v13_1174), (14, .int v14_1174), (15, .int v15_1174), (16, .int v16_1174), (17, .int v17_1174), (18, .int v18_1174), (19, .int v19_1174), (20, .int v20_1174), (21, .int v21_1174), (23, .int v23_1174)] [] := by
  intro σ_1174 v8_1174 v9_1174 v10_1174 v12_1174 v13_1174 v14_1174 v15_1174 v16_1174 v17_1174 v18_1174 v19_1174 v20_1174 v21_1174 v23_1174
  unfold M_L_law_J1174
  refine x_iconst C 1174 dL_law_1174 ki_0 ?_
  exact hJ1175 _ _ _ _ _ _ _ _ _ _ _ _ _ _ _ _
set_option maxRecDepth 100000 in
set_option maxHeartbeats 40000000 in
theorem c_LJ1170 {V : Ct_V} {A : Nat → Nat} {q : Lq} {K : Kt} (C : Fx K (Zl V A q) cL_law RL 7 171) (hNW : ∀ w ∈ NWl, va_Nw w K.2.2.2.2.1) (hN : ∀ i, i < 30 → ∀ K2 : Kt, K = K2 → i < K2.2.2.2.2.2.2.2.2.2.2.1) (R : Lr K (Zl V A q)) {E120 : ((Int32 × Int32 × Wd) ⊕ (Int32 × Wd)) → Prop} {v6_107 : Int32} {v7_114 : Int32} (hJ1175 : ∀ (σ_1175 : Wd) (v8_1175 : Int32) (v9_1175 : Int32) (v10_1175 : Int32) (v12_1175 : Int32) (v13_1175 : Int32) (v14_1175 : Int32) (v15_1175 : Int32) (v16_1175 : Int32) (v17_1175 : Int32) (v18_1175 : Int32) (v19_1175 : Int32) (v20_1175 : Int32) (v21_1175 : Int32) (v23_1175 : Int32) (t0_1175 : Int32), Y K (Zl V A q) (M_L_law_J1175 q σ_1175 v6_107 v7_114 v8_1175 v9_1175 v10_1175 v12_1175 v13_1175 v14_1175 v15_1175 v16_1175 v17_1175 v18_1175 v19_1175 v20_1175 v21_1175 v23_1175 t0_1175) E120 σ_1175 1175 [(1, .ref (A 0)), (3, .ref (zA (Zl V A q) 0)), (4, .ref (A 1)), (6, .int v6_107), (7, .int v7_114), (8, .int v8_1175), (9, .int v9_1175), (10, .int v10_1175), (12, .int v12_1175), (13, .int v13_1175), (14, .int v14_1175), (15, .int v15_1175), (16, .int v16_1175), (17, .int v17_1175), (18, .int v18_1175), (19, .int v19_1175), (20, .int v20_1175), (21, .int v21_1175), (23, .int v23_1175)] [.int t0_1175]) : ∀ (σ_1170 : Wd) (v8_1170 : Int32) (v9_1170 : Int32) (v10_1170 : Int32) (v12_1170 : Int32) (v13_1170 : Int32) (v14_1170 : Int32) (v15_1170 : Int32) (v16_1170 : Int32) (v17_1170 : Int32) (v18_1170 : Int32) (v19_1170 : Int32) (v20_1170 : Int32) (v21_1170 : Int32) (v23_1170 : Int32), Y K (Zl V A q) (M_L_law_J1170 q σ_1170 v6_107 v7_114 v8_1170 v9_1170 v10_1170 v12_1170 v13_1170 v14_1170 v15_1170 v16_1170 v17_1170 v18_1170 v19_1170 v20_1170 v21_1170 v23_1170) E120 σ_1170 1170 [(1, .ref (A 0)), (3, .ref (zA (Zl V A q) 0)), (4, .ref (A 1)), (6, .int v6_107), (7, .int v7_114), (8, .int v8_1170), (9, .int v9_1170), (10, .int v10_1170), (12, .int v12_1170), (13, .int v13_1170), (14, .int v14_1170), (15, .int v15_1170), (16, .int v16_1170), (17, .int v17_1170), (18, .int v18_1170), (19, .int v19_1170), (20, .int v20_1170), (21, .int v21_1170), (23, .int v23_1170)] [] := by
  intro σ_1170 v8_1170 v9_1170 v10_1170 v12_1170 v13_1170 v14_1170 v15_1170 v16_1170 v17_1170 v18_1170 v19_1170 v20_1170 v21_1170 v23_1170
  unfold M_L_law_J1170
  refine x_iconst C 1170 dL_law_1170 ki_1 ?_
  refine x_goto C 1171 1175 dL_law_1171 (by decide) ?_
  exact hJ1175 _ _ _ _ _ _ _ _ _ _ _ _ _ _ _ _
set_option maxRecDepth 100000 in
set_option maxHeartbeats 40000000 in
theorem c_LJ1041 {V : Ct_V} {A : Nat → Nat} {q : Lq} {K : Kt} (C : Fx K (Zl V A q) cL_law RL 7 171) (hNW : ∀ w ∈ NWl, va_Nw w K.2.2.2.2.1) (hN : ∀ i, i < 30 → ∀ K2 : Kt, K = K2 → i < K2.2.2.2.2.2.2.2.2.2.2.1) (R : Lr K (Zl V A q)) {E120 : ((Int32 × Int32 × Wd) ⊕ (Int32 × Wd)) → Prop} {v6_107 : Int32} {v7_114 : Int32} (hJ1410 : ∀ (σ_1410 : Wd) (v5_1410 : Int32) (v8_1410 : Int32) (v9_1410 : Int32) (v10_1410 : Int32) (v12_1410 : Int32) (v13_1410 : Int32) (v14_1410 : Int32) (v15_1410 : Int32) (v16_1410 : Int32) (v17_1410 : Int32) (v18_1410 : Int32) (v19_1410 : Int32) (v20_1410 : Int32) (v21_1410 : Int32) (v23_1410 : Int32), Y K (Zl V A q) (M_L_law_J1410 q σ_1410 v5_1410 v6_107 v7_114 v8_1410 v9_1410 v10_1410 v12_1410 v13_1410 v14_1410 v15_1410 v16_1410 v17_1410 v18_1410 v19_1410 v20_1410 v21_1410 v23_1410) E120 σ_1410 1410 [(1, .ref (A 0)), (3, .ref (zA (Zl V A q) 0)), (4, .ref (A 1)), (5, .int v5_1410), (6, .int v6_107), (7, .int v7_114), (8, .int v8_1410), (9, .int v9_1410), (10, .int v10_1410), (12, .int v12_1410), (13, .int v13_1410), (14, .int v14_1410), (15, .int v15_1410), (16, .int v16_1410), (17, .int v17_1410), (18, .int v18_1410), (19, .int v19_1410), (20, .int v20_1410), (21, .int v21_1410), (23, .int v23_1410)] []) : ∀ (σ_1041 : Wd) (v8_1041 : Int32) (v9_1041 : Int32) (v10_1041 : Int32) (v12_1041 : Int32) (v13_1041 : Int32) (v14_1041 : Int32) (v15_1041 : Int32) (v16_1041 : Int32) (v17_1041 : Int32) (v18_1041 : Int32) (v19_1041 : Int32) (v20_1041 : Int32) (v21_1041 : Int32) (v23_1041 : Int32) (v24_1041 : Int32) (v25_1041 : Int32) (v26_1041 : Int32) (t0_1041 : Int32) (t1_1041 : Int32), Y K (Zl V A q) (M_L_law_J1041 q σ_1041 v6_107 v7_114 v8_1041 v9_1041 v10_1041 v12_1041 v13_1041 v14_1041 v15_1041 v16_1041 v17_1041 v18_1041 v19_1041 v20_1041 v21_1041 v23_1041 v24_1041 v25_1041 v26_1041 t0_1041 t1_1041) E120 σ_1041 1041 [(1, .ref (A 0)), (3, .ref (zA (Zl V A q) 0)), (4, .ref (A 1)), (6, .int v6_107), (7, .int v7_114), (8, .int v8_1041), (9, .int v9_1041), (10, .int v10_1041), (12, .int v12_1041), (13, .int v13_1041), (14, .int v14_1041), (15, .int v15_1041), (16, .int v16_1041), (17, .int v17_1041), (18, .int v18_1041), (19, .int v19_1041), (20, .int v20_1041), (21, .int v21_1041), (23, .int v23_1041), (24, .int v24_1041), (25, .int v25_1041), (26, .int v26_1041)] [.int t0_1041, .int t1_1041] := by
  intro σ_1041 v8_1041 v9_1041 v10_1041 v12_1041 v13_1041 v14_1041 v15_1041 v16_1041 v17_1041 v18_1041 v19_1041 v20_1041 v21_1041 v23_1041 v24_1041 v25_1041 v26_1041 t0_1041 t1_1041
  unfold M_L_law_J1041
  have hJ1175 : ∀ (σ_1175 : Wd) (v8_1175 : Int32) (v9_1175 : Int32) (v10_1175 : Int32) (v12_1175 : Int32) (v13_1175 : Int32) (v14_1175 : Int32) (v15_1175 : Int32) (v16_1175 : Int32) (v17_1175 : Int32) (v18_1175 : Int32) (v19_1175 : Int32) (v20_1175 : Int32) (v21_1175 : Int32) (v23_1175 : Int32) (t0_1175 : Int32), Y K (Zl V A q) (M_L_law_J1175 q σ_1175 v6_107 v7_114 v8_1175 v9_1175 v10_1175 v12_1175 v13_1175 v14_1175 v15_1175 v16_1175 v17_1175 v18_1175 v19_1175 v20_1175 v21_1175 v23_1175 t0_1175) E120 σ_1175 1175 [(1, .ref (A 0)), (3, .ref (zA (Zl V A q) 0)), (4, .ref (A 1)), (6, .int v6_107), (7, .int v7_114), (8, .int v8_1175), (9, .int v9_1175), (10, .int v10_1175), (12, .int v12_1175), (13, .int v13_1175), (14, .int v14_1175), (15, .int v15_1175), (16, .int v16_1175), (17, .int v17_1175), (18, .int v18_1175), (19, .int v19_1175), (20, .int v20_1175), (21, .int v21_1175), (23, .int v23_1175)] [.int t0_1175] := c_LJ1175 C hNW hN R hJ1410
  have hJ1174 : ∀ (σ_1174 : Wd) (v8_1174 : Int32) (v9_1174 : Int32) (v10_1174 : Int32) (v12_1174 : Int32) (v13_1174 : Int32) (v14_1174 : Int32) (v15_1174 : Int32) (v16_1174 : Int32) (v17_1174 : Int32) (v18_1174 : Int32) (v19_1174 : Int32) (v20_1174 : Int32) (v21_1174 : Int32) (v23_1174 : Int32), Y K (Zl V A q) (M_L_law_J1174 q σ_1174 v6_107 v7_114 v8_1174 v9_1174 v10_1174 v12_1174 v13_1174 v14_1174 v15_1174 v16_1174 v17_1174 v18_1174 v19_1174 v20_1174 v21_1174 v23_1174) E120 σ_1174 1174 [(1, .ref (A 0)), (3, .ref (zA (Zl V A q) 0)), (4, .ref (A 1)), (6, .int v6_107), (7, .int v7_114), (8, .int v8_1174), (9, .int v9_1174), (10, .int v10_1174), (12, .int v12_1174), (13, .int v13_1174), (14, .int v14_1174), (15, .int v15_1174), (16, .int v16_1174), (17, .int v17_1174), (18, .int v18_1174), (19, .int v19_1174), (20, .int v20_1174), (21, .int v21_1174), (23, .int v23_1174)] [] := c_LJ1174 C hNW hN R hJ1175
  refine x_icmp_ne C 1041 1174 dL_law_1041 (by decide) (fun _ => ?_) (fun _ => ?_)
  · refine Y_sub [0, 1, 2, 3, 4, 5, 6, 7, 8, 9, 10, 11, 12, 13, 14, 15, 16, 17, 18] rfl ?_
    exact hJ1174 _ _ _ _ _ _ _ _ _ _ _ _ _ _ _
  · refine x_iload C 1044 18 dL_law_1044 rfl ?_
    have hJ1170 : ∀ (σ_1170 : Wd) (v8_1170 : Int32) (v9_1170 : Int32) (v10_1170 : Int32) (v12_1170 : Int32) (v13_1170 : Int32) (v14_1170 : Int32) (v15_1170 : Int32) (v16_1170 : Int32) (v17_1170 : Int32) (v18_1170 : Int32) (v19_1170 : Int32) (v20_1170 : Int32) (v21_1170 : Int32) (v23_1170 : Int32), Y K (Zl V A q) (M_L_law_J1170 q σ_1170 v6_107 v7_114 v8_1170 v9_1170 v10_1170 v12_1170 v13_1170 v14_1170 v15_1170 v16_1170 v17_1170 v18_1170 v19_1170 v20_1170 v21_1170 v23_1170) E120 σ_1170 1170 [(1, .ref (A 0)), (3, .ref (zA (Zl V A q) 0)), (4, .ref (A 1)), (6, .int v6_107), (7, .int v7_114), (8, .int v8_1170), (9, .int v9_1170), (10, .int v10_1170), (12, .int v12_1170), (13, .int v13_1170), (14, .int v14_1170), (15, .int v15_1170), (16, .int v16_1170), (17, .int v17_1170), (18, .int v18_1170), (19, .int v19_1170), (20, .int v20_1170), (21, .int v21_1170), (23, .int v23_1170)] [] := c_LJ1170 C hNW hN R hJ1175
    refine x_if_eq C 1046 1170 dL_law_1046 (by decide) (fun _ => ?_) (fun _ => ?_)
    · refine Y_sub [0, 1, 2, 3, 4, 5, 6, 7, 8, 9, 10, 11, 12, 13, 14, 15, 16, 17, 18] rfl ?_
      exact hJ1170 _ _ _ _ _ _ _ _ _ _ _ _ _ _ _
    · refine x_aload_n C 1049 1 dL_law_1049 rfl ?_
      refine x_bipush C 1050 dL_law_1050 kb_7 ?_
      refine Y_bnd2 (fun r1052 s_1052 h1052 => ?_)
      refine x_callLV C 1052 [.int (7 : Int32)] [] rfl tw_1117 mv_X8_count rfl (Nat.le_of_ble_eq_true rfl) (Nat.le_of_ble_eq_true rfl) (Nat.le_of_ble_eq_true rfl) dL_law_1052 (c_X8_count V _ _ _ h1052) ?_
      refine x_iload C 1055 10 dL_law_1055 rfl ?_
      refine x_iload C 1057 19 dL_law_1057 rfl ?_
      refine x_iadd C 1059 dL_law_1059 ?_
      refine x_icmp_ne C 1060 1174 dL_law_1060 (by decide) (fun _ => ?_) (fun _ => ?_)
      · refine Y_sub [0, 1, 2, 3, 4, 5, 6, 7, 8, 9, 10, 11, 12, 13, 14, 15, 16, 17, 18] rfl ?_
        exact hJ1174 _ _ _ _ _ _ _ _ _ _ _ _ _ _ _
      · refine x_aload_n C 1063 1 dL_law_1063 rfl ?_
        refine x_iload C 1064 7 dL_law_1064 rfl ?_
        refine x_iconst C 1066 dL_law_1066 ki_1 ?_
        refine Y_bnd2 (fun r1067 s_1067 h1067 => ?_)
        refine x_callLV C 1067 [.int v10_1041, .int (1 : Int32)] [] rfl tw_917 mv_X8_copy rfl (Nat.le_of_ble_eq_true rfl) (Nat.le_of_ble_eq_true rfl) (Nat.le_of_ble_eq_true rfl) dL_law_1067 (c_X8_copy V _ _ _ _ h1067) ?_
        refine x_iload C 1070 15 dL_law_1070 rfl ?_
        refine x_iload C 1072 20 dL_law_1072 rfl ?_
        refine x_iadd C 1074 dL_law_1074 ?_
        refine x_icmp_ne C 1075 1174 dL_law_1075 (by decide) (fun _ => ?_) (fun _ => ?_)
        · refine Y_sub [0, 1, 2, 3, 4, 5, 6, 7, 8, 9, 10, 11, 12, 13, 14, 15, 16, 17, 18] rfl ?_
          exact hJ1174 _ _ _ _ _ _ _ _ _ _ _ _ _ _ _
        · refine x_aload_n C 1078 1 dL_law_1078 rfl ?_
          refine x_iload C 1079 6 dL_law_1079 rfl ?_
          refine x_iload C 1081 7 dL_law_1081 rfl ?_
          refine Y_bnd1 (fun r1083 h1083 => ?_)
          refine x_callLV C 1083 [.int v9_1041, .int v10_1041] [] rfl tw_967 mv_X8_lacks rfl (Nat.le_of_ble_eq_true rfl) (Nat.le_of_ble_eq_true rfl) (Nat.le_of_ble_eq_true rfl) dL_law_1083 (c_X8_lacks V _ _ _ _ h1083) ?_
          refine x_if_ne C 1086 1174 dL_law_1086 (by decide) (fun _ => ?_) (fun _ => ?_)
          · refine Y_sub [0, 1, 2, 3, 4, 5, 6, 7, 8, 9, 10, 11, 12, 13, 14, 15, 16, 17, 18] rfl ?_
            exact hJ1174 _ _ _ _ _ _ _ _ _ _ _ _ _ _ _
          · refine x_aload_n C 1089 1 dL_law_1089 rfl ?_
            refine x_iload C 1090 7 dL_law_1090 rfl ?_
            refine x_iconst C 1092 dL_law_1092 ki_2 ?_
            refine Y_bnd2 (fun r1093 s_1093 h1093 => ?_)
            refine x_callLV C 1093 [.int v10_1041, .int (2 : Int32)] [] rfl tw_917 mv_X8_copy rfl (Nat.le_of_ble_eq_true rfl) (Nat.le_of_ble_eq_true rfl) (Nat.le_of_ble_eq_true rfl) dL_law_1093 (c_X8_copy V _ _ _ _ h1093) ?_
            refine x_aload_n C 1096 1 dL_law_1096 rfl ?_
            refine x_iload C 1097 6 dL_law_1097 rfl ?_
            refine x_iconst C 1099 dL_law_1099 ki_2 ?_
            refine Y_bnd2 (fun r1100 s_1100 h1100 => ?_)
            refine x_callLV C 1100 [.int v9_1041, .int (2 : Int32)] [.int r1093] rfl tw_917 mv_X8_copy rfl (Nat.le_of_ble_eq_true rfl) (Nat.le_of_ble_eq_true rfl) (Nat.le_of_ble_eq_true rfl) dL_law_1100 (c_X8_copy V _ _ _ _ h1100) ?_
            refine x_icmp_lt C 1103 1174 dL_law_1103 (by decide) (fun _ => ?_) (fun _ => ?_)
            · refine Y_sub [0, 1, 2, 3, 4, 5, 6, 7, 8, 9, 10, 11, 12, 13, 14, 15, 16, 17, 18] rfl ?_
              exact hJ1174 _ _ _ _ _ _ _ _ _ _ _ _ _ _ _
            · refine x_aload_n C 1106 1 dL_law_1106 rfl ?_
              refine x_bipush C 1107 dL_law_1107 kb_12 ?_
              refine Y_bnd2 (fun r1109 s_1109 h1109 => ?_)
              refine x_callLV C 1109 [.int (12 : Int32)] [] rfl tw_1117 mv_X8_count rfl (Nat.le_of_ble_eq_true rfl) (Nat.le_of_ble_eq_true rfl) (Nat.le_of_ble_eq_true rfl) dL_law_1109 (c_X8_count V _ _ _ h1109) ?_
              refine x_iload C 1112 11 dL_law_1112 rfl ?_
              refine x_iconst C 1114 dL_law_1114 ki_2 ?_
              refine x_iadd C 1115 dL_law_1115 ?_
              refine x_icmp_ne C 1116 1174 dL_law_1116 (by decide) (fun _ => ?_) (fun _ => ?_)
              · refine Y_sub [0, 1, 2, 3, 4, 5, 6, 7, 8, 9, 10, 11, 12, 13, 14, 15, 16, 17, 18] rfl ?_
                exact hJ1174 _ _ _ _ _ _ _ _ _ _ _ _ _ _ _
              · refine x_aload_n C 1119 1 dL_law_1119 rfl ?_
                refine x_iconst C 1120 dL_law_1120 ki_0 ?_
                refine Y_bnd1 (fun r1121 h1121 => ?_)
                refine x_callLV C 1121 [.int (0 : Int32)] [] rfl tw_959 mv_X8_shut rfl (Nat.le_of_ble_eq_true rfl) (Nat.le_of_ble_eq_true rfl) (Nat.le_of_ble_eq_true rfl) dL_law_1121 (c_X8_shut V _ _ _ h1121) ?_
                refine x_iload C 1124 7 dL_law_1124 rfl ?_
                refine x_icmp_ne C 1126 1174 dL_law_1126 (by decide) (fun _ => ?_) (fun _ => ?_)
                · refine Y_sub [0, 1, 2, 3, 4, 5, 6, 7, 8, 9, 10, 11, 12, 13, 14, 15, 16, 17, 18] rfl ?_
                  exact hJ1174 _ _ _ _ _ _ _ _ _ _ _ _ _ _ _
                · refine x_aload_n C 1129 1 dL_law_1129 rfl ?_
                  refine x_iconst C 1130 dL_law_1130 ki_1 ?_
                  refine Y_bnd1 (fun r1131 h1131 => ?_)
                  refine x_callLV C 1131 [.int (1 : Int32)] [] rfl tw_959 mv_X8_shut rfl (Nat.le_of_ble_eq_true rfl) (Nat.le_of_ble_eq_true rfl) (Nat.le_of_ble_eq_true rfl) dL_law_1131 (c_X8_shut V _ _ _ h1131) ?_
                  refine x_iload C 1134 6 dL_law_1134 rfl ?_
                  refine x_icmp_ne C 1136 1174 dL_law_1136 (by decide) (fun _ => ?_) (fun _ => ?_)
                  · refine Y_sub [0, 1, 2, 3, 4, 5, 6, 7, 8, 9, 10, 11, 12, 13, 14, 15, 16, 17, 18] rfl ?_
                    exact hJ1174 _ _ _ _ _ _ _ _ _ _ _ _ _ _ _
                  · refine x_iload C 1139 19 dL_law_1139 rfl ?_
                    refine x_iload C 1141 15 dL_law_1141 rfl ?_
                    refine x_icmp_gt C 1143 1174 dL_law_1143 (by decide) (fun _ => ?_) (fun _ => ?_)
                    · refine Y_sub [0, 1, 2, 3, 4, 5, 6, 7, 8, 9, 10, 11, 12, 13, 14, 15, 16, 17, 18] rfl ?_
                      exact hJ1174 _ _ _ _ _ _ _ _ _ _ _ _ _ _ _
                    · refine x_iload C 1146 19 dL_law_1146 rfl ?_
                      refine x_iload C 1148 15 dL_law_1148 rfl ?_
                      refine x_iload C 1150 21 dL_law_1150 rfl ?_
                      refine x_isub C 1152 dL_law_1152 ?_
                      refine x_icmp_le C 1153 1170 dL_law_1153 (by decide) (fun _ => ?_) (fun _ => ?_)
                      · refine Y_sub [0, 1, 2, 3, 4, 5, 6, 7, 8, 9, 10, 11, 12, 13, 14, 15, 16, 17, 18] rfl ?_
                        exact hJ1170 _ _ _ _ _ _ _ _ _ _ _ _ _ _ _
                      · refine x_iload C 1156 7 dL_law_1156 rfl ?_
                        refine x_iload C 1158 17 dL_law_1158 rfl ?_
                        refine x_icmp_eq C 1160 1174 dL_law_1160 (by decide) (fun _ => ?_) (fun _ => ?_)
                        · refine Y_sub [0, 1, 2, 3, 4, 5, 6, 7, 8, 9, 10, 11, 12, 13, 14, 15, 16, 17, 18] rfl ?_
                          exact hJ1174 _ _ _ _ _ _ _ _ _ _ _ _ _ _ _
                        · refine x_iload C 1163 21 dL_law_1163 rfl ?_
                          refine x_iload C 1165 15 dL_law_1165 rfl ?_
                          refine x_icmp_le C 1167 1174 dL_law_1167 (by decide) (fun _ => ?_) (fun _ => ?_)
                          · refine Y_sub [0, 1, 2, 3, 4, 5, 6, 7, 8, 9, 10, 11, 12, 13, 14, 15, 16, 17, 18] rfl ?_
                            exact hJ1174 _ _ _ _ _ _ _ _ _ _ _ _ _ _ _
                          · refine Y_sub [0, 1, 2, 3, 4, 5, 6, 7, 8, 9, 10, 11, 12, 13, 14, 15, 16, 17, 18] rfl ?_
                            exact hJ1170 _ _ _ _ _ _ _ _ _ _ _ _ _ _ _
set_option maxRecDepth 100000 in
set_option maxHeartbeats 40000000 in
theorem c_LJ1026 {V : Ct_V} {A : Nat → Nat} {q : Lq} {K : Kt} (C : Fx K (Zl V A q) cL_law RL 7 171) (hNW : ∀ w ∈ NWl, va_Nw w K.2.2.2.2.1) (hN : ∀ i, i < 30 → ∀ K2 : Kt, K = K2 → i < K2.2.2.2.2.2.2.2.2.2.2.1) (R : Lr K (Zl V A q)) {E120 : ((Int32 × Int32 × Wd) ⊕ (Int32 × Wd)) → Prop} {v6_107 : Int32} {v7_114 : Int32} (hJ1410 : ∀ (σ_1410 : Wd) (v5_1410 : Int32) (v8_1410 : Int32) (v9_1410 : Int32) (v10_1410 : Int32) (v12_1410 : Int32) (v13_1410 : Int32) (v14_1410 : Int32) (v15_1410 : Int32) (v16_1410 : Int32) (v17_1410 : Int32) (v18_1410 : Int32) (v19_1410 : Int32) (v20_1410 : Int32) (v21_1410 : Int32) (v23_1410 : Int32), Y K (Zl V A q) (M_L_law_J1410 q σ_1410 v5_1410 v6_107 v7_114 v8_1410 v9_1410 v10_1410 v12_1410 v13_1410 v14_1410 v15_1410 v16_1410 v17_1410 v18_1410 v19_1410 v20_1410 v21_1410 v23_1410) E120 σ_1410 1410 [(1, .ref (A 0)), (3, .ref (zA (Zl V A q) 0)), (4, .ref (A 1)), (5, .int v5_1410), (6, .int v6_107), (7, .int v7_114), (8, .int v8_1410), (9, .int v9_1410), (10, .int v10_1410), (12, .int v12_1410), (13, .int v13_1410), (14, .int v14_1410), (15, .int v15_1410), (16, .int v16_1410), (17, .int v17_1410), (18, .int v18_1410), (19, .int v19_1410), (20, .int v20_1410), (21, .int v21_1410), (23, .int v23_1410)] []) : ∀ (σ_1026 : Wd) (v8_1026 : Int32) (v9_1026 : Int32) (v10_1026 : Int32) (v12_1026 : Int32) (v13_1026 : Int32) (v14_1026 : Int32) (v15_1026 : Int32) (v16_1026 : Int32) (v17_1026 : Int32) (v18_1026 : Int32) (v19_1026 : Int32) (v20_1026 : Int32) (v21_1026 : Int32) (v24_1026 : Int32) (v25_1026 : Int32) (v26_1026 : Int32) (v27_1026 : Int32) (t0_1026 : Int32), Y K (Zl V A q) (M_L_law_J1026 q σ_1026 v6_107 v7_114 v8_1026 v9_1026 v10_1026 v12_1026 v13_1026 v14_1026 v15_1026 v16_1026 v17_1026 v18_1026 v19_1026 v20_1026 v21_1026 v24_1026 v25_1026 v26_1026 v27_1026 t0_1026) E120 σ_1026 1026 [(1, .ref (A 0)), (3, .ref (zA (Zl V A q) 0)), (4, .ref (A 1)), (6, .int v6_107), (7, .int v7_114), (8, .int v8_1026), (9, .int v9_1026), (10, .int v10_1026), (12, .int v12_1026), (13, .int v13_1026), (14, .int v14_1026), (15, .int v15_1026), (16, .int v16_1026), (17, .int v17_1026), (18, .int v18_1026), (19, .int v19_1026), (20, .int v20_1026), (21, .int v21_1026), (24, .int v24_1026), (25, .int v25_1026), (26, .int v26_1026), (27, .int v27_1026)] [.int t0_1026] := by
  intro σ_1026 v8_1026 v9_1026 v10_1026 v12_1026 v13_1026 v14_1026 v15_1026 v16_1026 v17_1026 v18_1026 v19_1026 v20_1026 v21_1026 v24_1026 v25_1026 v26_1026 v27_1026 t0_1026
  unfold M_L_law_J1026
  refine x_istore C 1026 (L' := [(23, .int t0_1026), (1, .ref (A 0)), (3, .ref (zA (Zl V A q) 0)), (4, .ref (A 1)), (6, .int v6_107), (7, .int v7_114), (8, .int v8_1026), (9, .int v9_1026), (10, .int v10_1026), (12, .int v12_1026), (13, .int v13_1026), (14, .int v14_1026), (15, .int v15_1026), (16, .int v16_1026), (17, .int v17_1026), (18, .int v18_1026), (19, .int v19_1026), (20, .int v20_1026), (21, .int v21_1026), (24, .int v24_1026), (25, .int v25_1026), (26, .int v26_1026), (27, .int v27_1026)]) dL_law_1026 (hN _ (Nat.le_of_ble_eq_true rfl)) rfl ?_
  refine x_iload C 1028 22 dL_law_1028 rfl ?_
  refine x_iload C 1030 0 dL_law_1030 rfl ?_
  have hJ1041 : ∀ (σ_1041 : Wd) (v8_1041 : Int32) (v9_1041 : Int32) (v10_1041 : Int32) (v12_1041 : Int32) (v13_1041 : Int32) (v14_1041 : Int32) (v15_1041 : Int32) (v16_1041 : Int32) (v17_1041 : Int32) (v18_1041 : Int32) (v19_1041 : Int32) (v20_1041 : Int32) (v21_1041 : Int32) (v23_1041 : Int32) (v24_1041 : Int32) (v25_1041 : Int32) (v26_1041 : Int32) (t0_1041 : Int32) (t1_1041 : Int32), Y K (Zl V A q) (M_L_law_J1041 q σ_1041 v6_107 v7_114 v8_1041 v9_1041 v10_1041 v12_1041 v13_1041 v14_1041 v15_1041 v16_1041 v17_1041 v18_1041 v19_1041 v20_1041 v21_1041 v23_1041 v24_1041 v25_1041 v26_1041 t0_1041 t1_1041) E120 σ_1041 1041 [(1, .ref (A 0)), (3, .ref (zA (Zl V A q) 0)), (4, .ref (A 1)), (6, .int v6_107), (7, .int v7_114), (8, .int v8_1041), (9, .int v9_1041), (10, .int v10_1041), (12, .int v12_1041), (13, .int v13_1041), (14, .int v14_1041), (15, .int v15_1041), (16, .int v16_1041), (17, .int v17_1041), (18, .int v18_1041), (19, .int v19_1041), (20, .int v20_1041), (21, .int v21_1041), (23, .int v23_1041), (24, .int v24_1041), (25, .int v25_1041), (26, .int v26_1041)] [.int t0_1041, .int t1_1041] := c_LJ1041 C hNW hN R hJ1410
  refine x_if_eq C 1032 1040 dL_law_1032 (by decide) (fun _ => ?_) (fun _ => ?_)
  · refine x_iconst C 1040 dL_law_1040 ki_m1 ?_
    refine Y_sub [1, 2, 3, 4, 5, 6, 7, 8, 9, 10, 11, 12, 13, 14, 15, 16, 17, 18, 0, 19, 20, 21] rfl ?_
    exact hJ1041 _ _ _ _ _ _ _ _ _ _ _ _ _ _ _ _ _ _ _ _
  · refine x_iload C 1035 19 dL_law_1035 rfl ?_
    refine x_goto C 1037 1041 dL_law_1037 (by decide) ?_
    refine Y_sub [1, 2, 3, 4, 5, 6, 7, 8, 9, 10, 11, 12, 13, 14, 15, 16, 17, 18, 0, 19, 20, 21] rfl ?_
    exact hJ1041 _ _ _ _ _ _ _ _ _ _ _ _ _ _ _ _ _ _ _ _
set_option maxRecDepth 100000 in
set_option maxHeartbeats 40000000 in
theorem c_LJ1025 {V : Ct_V} {A : Nat → Nat} {q : Lq} {K : Kt} (C : Fx K (Zl V A q) cL_law RL 7 171) (hNW : ∀ w ∈ NWl, va_Nw w K.2.2.2.2.1) (hN : ∀ i, i < 30 → ∀ K2 : Kt, K = K2 → i < K2.2.2.2.2.2.2.2.2.2.2.1) (R : Lr K (Zl V A q)) {E120 : ((Int32 × Int32 × Wd) ⊕ (Int32 × Wd)) → Prop} {v6_107 : Int32} {v7_114 : Int32} (hJ1026 : ∀ (σ_1026 : Wd) (v8_1026 : Int32) (v9_1026 : Int32) (v10_1026 : Int32) (v12_1026 : Int32) (v13_1026 : Int32) (v14_1026 : Int32) (v15_1026 : Int32) (v16_1026 : Int32) (v17_1026 : Int32) (v18_1026 : Int32) (v19_1026 : Int32) (v20_1026 : Int32) (v21_1026 : Int32) (v24_1026 : Int32) (v25_1026 : Int32) (v26_1026 : Int32) (v27_1026 : Int32) (t0_1026 : Int32), Y K (Zl V A q) (M_L_law_J1026 q σ_1026 v6_107 v7_114 v8_1026 v9_1026 v10_1026 v12_1026 v13_1026 v14_1026 v15_1026 v16_1026 v17_1026 v18_1026 v19_1026 v20_1026 v21_1026 v24_1026 v25_1026 v26_1026 v27_1026 t0_1026) E120 σ_1026 1026 [(1, .ref (A 0)), (3, .ref (zA (Zl V A q) 0)), (4, .ref (A 1)), (6, .int v6_107), (7, .int v7_114), (8, .int v8_1026), (9, .int v9_1026), (10, .int v10_1026), (12, .int v12_1026), (13, .int v13_1026), (14, .int v14_1026), (15, .int v15_1026), (16, .int v16_1026), (17, .int v17_1026), (18, .int v18_1026), (19, .int v19_1026), (20, .int v20_1026), (21, .int v21_1026), (24, .int v24_1026), (25, .int v25_1026), (26, .int v26_1026), (27, .int v27_1026)] [.int t0_1026]) : ∀ (σ_1025 : Wd) (v8_1025 : Int32) (v9_1025 : Int32) (v10_1025 : Int32) (v12_1025 : Int32) (v13_1025 : Int32) (v14_1025 : Int32) (v15_1025 : Int32) (v16_1025 : Int32) (v17_1025 : Int32) (v18_1025 : Int32) (v19_1025 : Int32) (v20_1025 : Int32) (v21_1025 : Int32) (v24_1025 : Int32) (v25_1025 : Int32) (v26_1025 : Int32) (v27_1025 : Int32), Y K (Zl V A q) (M_L_law_J1025 q σ_1025 v6_107 v7_114 v8_1025 v9_1025 v10_1025 v12_1025 v13_1025 v14_1025 v15_1025 v16_1025 v17_1025 v18_1025 v19_1025 v20_1025 v21_1025 v24_1025 v25_1025 v26_1025 v27_1025) E120 σ_1025 1025 [(1, .ref (A 0)), (3, .ref (zA (Zl V A q) 0)), (4, .ref (A 1)), (6, .int v6_107), (7, .int v7_114), (8, .int v8_1025), (9, .int v9_1025), (10, .int v10_1025), (12, .int v12_1025), (13, .int v13_1025), (14, .int v14_1025), (15, .int v15_1025), (16, .int v16_1025), (17, .int v17_1025), (18, .int v18_1025), (19, .int v19_1025), (20, .int v20_1025), (21, .int v21_1025), (24, .int v24_1025), (25, .int v25_1025), (26, .int v26_1025), (27, .int v27_1025)] [] := by
  intro σ_1025 v8_1025 v9_1025 v10_1025 v12_1025 v13_1025 v14_1025 v15_1025 v16_1025 v17_1025 v18_1025 v19_1025 v20_1025 v21_1025 v24_1025 v25_1025 v26_1025 v27_1025
  unfold M_L_law_J1025
  refine x_iconst C 1025 dL_law_1025 ki_0 ?_
  exact hJ1026 _ _ _ _ _ _ _ _ _ _ _ _ _ _ _ _ _ _ _
set_option maxRecDepth 100000 in
set_option maxHeartbeats 40000000 in
theorem c_LJ1273 {V : Ct_V} {A : Nat → Nat} {q : Lq} {K : Kt} (C : Fx K (Zl V A q) cL_law RL 7 171) (hNW : ∀ w ∈ NWl, va_Nw w K.2.2.2.2.1) (hN : ∀ i, i < 30 → ∀ K2 : Kt, K = K2 → i < K2.2.2.2.2.2.2.2.2.2.2.1) (R : Lr K (Zl V A q)) {E120 : ((Int32 × Int32 × Wd) ⊕ (Int32 × Wd)) → Prop} {v6_107 : Int32} {v7_114 : Int32} (hJ1410 : ∀ (σ_1410 : Wd) (v5_1410 : Int32) (v8_1410 : Int32) (v9_1410 : Int32) (v10_1410 : Int32) (v12_1410 : Int32) (v13_1410 : Int32) (v14_1410 : Int32) (v15_1410 : Int32) (v16_1410 : Int32) (v17_1410 : Int32) (v18_1410 : Int32) (v19_1410 : Int32) (v20_1410 : Int32) (v21_1410 : Int32) (v23_1410 : Int32), Y K (Zl V A q) (M_L_law_J1410 q σ_1410 v5_1410 v6_107 v7_114 v8_1410 v9_1410 v10_1410 v12_1410 v13_1410 v14_1410 v15_1410 v16_1410 v17_1410 v18_1410 v19_1410 v20_1410 v21_1410 v23_1410) E120 σ_1410 1410 [(1, .ref (A 0)), (3, .ref (zA (Zl V A q) 0)), (4, .ref (A 1)), (5, .int v5_1410), (6, .int v6_107), (7, .int v7_114), (8, .int v8_1410), (9, .int v9_1410), (10, .int v10_1410), (12, .int v12_1410), (13, .int v13_1410), (14, .int v14_1410), (15, .int v15_1410), (16, .int v16_1410), (17, .int v17_1410), (18, .int v18_1410), (19, .int v19_1410), (20, .int v20_1410), (21, .int v21_1410), (23, .int v23_1410)] []) : ∀ (σ_1273 : Wd) (v8_1273 : Int32) (v9_1273 : Int32) (v10_1273 : Int32) (v12_1273 : Int32) (v13_1273 : Int32) (v14_1273 : Int32) (v15_1273 : Int32) (v16_1273 : Int32) (v17_1273 : Int32) (v18_1273 : Int32) (v19_1273 : Int32) (v20_1273 : Int32) (v21_1273 : Int32) (t0_1273 : Int32), Y K (Zl V A q) (M_L_law_J1273 q σ_1273 v6_107 v7_114 v8_1273 v9_1273 v10_1273 v12_1273 v13_1273 v14_1273 v15_1273 v16_1273 v17_1273 v18_1273 v19_1273 v20_1273 v21_1273 t0_1273) E120 σ_1273 1273 [(1, .ref (A 0)), (3, .ref (zA (Zl V A q) 0)), (4, .ref (A 1)), (6, .int v6_107), (7, .int v7_114), (8, .int v8_1273), (9, .int v9_1273), (10, .int v10_1273), (12, .int v12_1273), (13, .int v13_1273), (14, .int v14_1273), (15, .int v15_1273), (16, .int v16_1273), (17, .int v17_1273), (18, .int v18_1273), (19, .int v19_1273), (20, .int v20_1273), (21, .int v21_1273)] [.int t0_1273] := by
  intro σ_1273 v8_1273 v9_1273 v10_1273 v12_1273 v13_1273 v14_1273 v15_1273 v16_1273 v17_1273 v18_1273 v19_1273 v20_1273 v21_1273 t0_1273
  unfold M_L_law_J1273
  refine x_istore C 1273 (L' := [(5, .int t0_1273), (1, .ref (A 0)), (3, .ref (zA (Zl V A q) 0)), (4, .ref (A 1)), (6, .int v6_107), (7, .int v7_114), (8, .int v8_1273), (9, .int v9_1273), (10, .int v10_1273), (12, .int v12_1273), (13, .int v13_1273), (14, .int v14_1273), (15, .int v15_1273), (16, .int v16_1273), (17, .int v17_1273), (18, .int v18_1273), (19, .int v19_1273), (20, .int v20_1273), (21, .int v21_1273)]) dL_law_1273 (hN _ (Nat.le_of_ble_eq_true rfl)) rfl ?_
  refine x_iconst C 1275 dL_law_1275 ki_0 ?_
  refine x_istore C 1276 (L' := [(23, .int (0 : Int32)), (5, .int t0_1273), (1, .ref (A 0)), (3, .ref (zA (Zl V A q) 0)), (4, .ref (A 1)), (6, .int v6_107), (7, .int v7_114), (8, .int v8_1273), (9, .int v9_1273), (10, .int v10_1273), (12, .int v12_1273), (13, .int v13_1273), (14, .int v14_1273), (15, .int v15_1273), (16, .int v16_1273), (17, .int v17_1273), (18, .int v18_1273), (19, .int v19_1273), (20, .int v20_1273), (21, .int v21_1273)]) dL_law_1276 (hN _ (Nat.le_of_ble_eq_true rfl)) rfl ?_
  refine x_goto C 1278 1410 dL_law_1278 (by decide) ?_
  refine Y_sub [2, 3, 4, 1, 5, 6, 7, 8, 9, 10, 11, 12, 13, 14, 15, 16, 17, 18, 19, 0] rfl ?_
  exact hJ1410 _ _ _ _ _ _ _ _ _ _ _ _ _ _ _ _
set_option maxRecDepth 100000 in
set_option maxHeartbeats 40000000 in
theorem c_LJ1272 {V : Ct_V} {A : Nat → Nat} {q : Lq} {K : Kt} (C : Fx K (Zl V A q) cL_law RL 7 171) (hNW : ∀ w ∈ NWl, va_Nw w K.2.2.2.2.1) (hN : ∀ i, i < 30 → ∀ K2 : Kt, K = K2 → i < K2.2.2.2.2.2.2.2.2.2.2.1) (R : Lr K (Zl V A q)) {E120 : ((Int32 × Int32 × Wd) ⊕ (Int32 × Wd)) → Prop} {v6_107 : Int32} {v7_114 : Int32} (hJ1273 : ∀ (σ_1273 : Wd) (v8_1273 : Int32) (v9_1273 : Int32) (v10_1273 : Int32) (v12_1273 : Int32) (v13_1273 : Int32) (v14_1273 : Int32) (v15_1273 : Int32) (v16_1273 : Int32) (v17_1273 : Int32) (v18_1273 : Int32) (v19_1273 : Int32) (v20_1273 : Int32) (v21_1273 : Int32) (t0_1273 : Int32), Y K (Zl V A q) (M_L_law_J1273 q σ_1273 v6_107 v7_114 v8_1273 v9_1273 v10_1273 v12_1273 v13_1273 v14_1273 v15_1273 v16_1273 v17_1273 v18_1273 v19_1273 v20_1273 v21_1273 t0_1273) E120 σ_1273 1273 [(1, .ref (A 0)), (3, .ref (zA (Zl V A q) 0)), (4, .ref (A 1)), (6, .int v6_107), (7, .int v7_114), (8, .int v8_1273), (9, .int v9_1273), (10, .int v10_1273), (12, .int v12_1273), (13, .int v13_1273), (14, .int v14_1273), (15, .int v15_1273), (16, .int v16_1273), (17, .int v17_1273), (18, .int v18_1273), (19, .int v19_1273), (20, .int v20_1273), (21, .int v21_1273)] [.int t0_1273]) : ∀ (σ_1272 : Wd) (v8_1272 : Int32) (v9_1272 : Int32) (v10_1272 : Int32) (v12_1272 : Int32) (v13_1272 : Int32) (v14_1272 : Int32) (v15_1272 : Int32) (v16_1272 : Int32) (v17_1272 : Int32) (v18_1272 : Int32) (v19_1272 : Int32) (v20_1272 : Int32) (v21_1272 : Int32), Y K (Zl V A q) (M_L_law_J1272 q σ_1272 v6_107 v7_114 v8_1272 v9_1272 v10_1272 v12_1272 v13_1272 v14_1272 v15_1272 v16_1272 v17_1272 v18_1272 v19_1272 v20_1272 v21_1272) E120 σ_1272 1272 [(1, .ref (A 0)), (3, .ref (zA (Zl V A q) 0)), (4, .ref (A 1)), (6, .int v6_107), (7, .int v7_114), (8, .int v8_1272), (9, .int v9_1272), (10, .int v10_1272), (12, .int v12_1272), (13, .int v13_1272), (14, .int v14_1272), (15, .int v15_1272), (16, .int v16_1272), (17, .int v17_1272), (18, .int v18_1272), (19, .int v19_1272), (20, .int v20_1272), (21, .int v21_1272)] [] := by
  intro σ_1272 v8_1272 v9_1272 v10_1272 v12_1272 v13_1272 v14_1272 v15_1272 v16_1272 v17_1272 v18_1272 v19_1272 v20_1272 v21_1272
  unfold M_L_law_J1272
  refine x_iconst C 1272 dL_law_1272 ki_0 ?_
  exact hJ1273 _ _ _ _ _ _ _ _ _ _ _ _ _ _ _
set_option maxRecDepth 100000 in
set_option maxHeartbeats 40000000 in
theorem c_LJ1234 {V : Ct_V} {A : Nat → Nat} {q : Lq} {K : Kt} (C : Fx K (Zl V A q) cL_law RL 7 171) (hNW : ∀ w ∈ NWl, va_Nw w K.2.2.2.2.1) (hN : ∀ i, i < 30 → ∀ K2 : Kt, K = K2 → i < K2.2.2.2.2.2.2.2.2.2.2.1) (R : Lr K (Zl V A q)) {E120 : ((Int32 × Int32 × Wd) ⊕ (Int32 × Wd)) → Prop} {v6_107 : Int32} {v7_114 : Int32} (hJ1410 : ∀ (σ_1410 : Wd) (v5_1410 : Int32) (v8_1410 : Int32) (v9_1410 : Int32) (v10_1410 : Int32) (v12_1410 : Int32) (v13_1410 : Int32) (v14_1410 : Int32) (v15_1410 : Int32) (v16_1410 : Int32) (v17_1410 : Int32) (v18_1410 : Int32) (v19_1410 : Int32) (v20_1410 : Int32) (v21_1410 : Int32) (v23_1410 : Int32), Y K (Zl V A q) (M_L_law_J1410 q σ_1410 v5_1410 v6_107 v7_114 v8_1410 v9_1410 v10_1410 v12_1410 v13_1410 v14_1410 v15_1410 v16_1410 v17_1410 v18_1410 v19_1410 v20_1410 v21_1410 v23_1410) E120 σ_1410 1410 [(1, .ref (A 0)), (3, .ref (zA (Zl V A q) 0)), (4, .ref (A 1)), (5, .int v5_1410), (6, .int v6_107), (7, .int v7_114), (8, .int v8_1410), (9, .int v9_1410), (10, .int v10_1410), (12, .int v12_1410), (13, .int v13_1410), (14, .int v14_1410), (15, .int v15_1410), (16, .int v16_1410), (17, .int v17_1410), (18, .int v18_1410), (19, .int v19_1410), (20, .int v20_1410), (21, .int v21_1410), (23, .int v23_1410)] []) : ∀ (σ_1234 : Wd) (v8_1234 : Int32) (v9_1234 : Int32) (v10_1234 : Int32) (v12_1234 : Int32) (v13_1234 : Int32) (v14_1234 : Int32) (v15_1234 : Int32) (v16_1234 : Int32) (v17_1234 : Int32) (v18_1234 : Int32) (v19_1234 : Int32) (v20_1234 : Int32) (v21_1234 : Int32) (v23_1234 : Int32) (t0_1234 : Int32), Y K (Zl V A q) (M_L_law_J1234 q σ_1234 v6_107 v7_114 v8_1234 v9_1234 v10_1234 v12_1234 v13_1234 v14_1234 v15_1234 v16_1234 v17_1234 v18_1234 v19_1234 v20_1234 v21_1234 v23_1234 t0_1234) E120 σ_1234 1234 [(1, .ref (A 0)), (3, .ref (zA (Zl V A q) 0)), (4, .ref (A 1)), (6, .int v6_107), (7, .int v7_114), (8, .int v8_1234), (9, .int v9_1234), (10, .int v10_1234), (12, .int v12_1234), (13, .int v13_1234), (14, .int v14_1234), (15, .int v15_1234), (16, .int v16_1234), (17, .int v17_1234), (18, .int v18_1234), (19, .int v19_1234), (20, .int v20_1234), (21, .int v21_1234), (23, .int v23_1234)] [.int t0_1234] := by
  intro σ_1234 v8_1234 v9_1234 v10_1234 v12_1234 v13_1234 v14_1234 v15_1234 v16_1234 v17_1234 v18_1234 v19_1234 v20_1234 v21_1234 v23_1234 t0_1234
  unfold M_L_law_J1234
  refine x_istore C 1234 (L' := [(5, .int t0_1234), (1, .ref (A 0)), (3, .ref (zA (Zl V A q) 0)), (4, .ref (A 1)), (6, .int v6_107), (7, .int v7_114), (8, .int v8_1234), (9, .int v9_1234), (10, .int v10_1234), (12, .int v12_1234), (13, .int v13_1234), (14, .int v14_1234), (15, .int v15_1234), (16, .int v16_1234), (17, .int v17_1234), (18, .int v18_1234), (19, .int v19_1234), (20, .int v20_1234), (21, .int v21_1234), (23, .int v23_1234)]) dL_law_1234 (hN _ (Nat.le_of_ble_eq_true rfl)) rfl ?_
  refine x_aload_n C 1236 1 dL_law_1236 rfl ?_
  refine x_iload C 1237 6 dL_law_1237 rfl ?_
  refine x_script C 1239 dL_law_1239 (fun _ => ?_)
  refine x_bipush C 1240 dL_law_1240 kb_14 ?_
  refine x_ishr C 1242 dL_law_1242 ?_
  refine x_iconst C 1243 dL_law_1243 ki_1 ?_
  refine x_iand C 1244 dL_law_1244 ?_
  refine x_if_eq C 1245 1410 dL_law_1245 (by decide) (fun _ => ?_) (fun _ => ?_)
  · refine Y_sub [1, 2, 3, 0, 4, 5, 6, 7, 8, 9, 10, 11, 12, 13, 14, 15, 16, 17, 18, 19] rfl ?_
    exact hJ1410 _ _ _ _ _ _ _ _ _ _ _ _ _ _ _ _
  · refine x_iload C 1248 19 dL_law_1248 rfl ?_
    refine x_if_ne C 1250 1256 dL_law_1250 (by decide) (fun _ => ?_) (fun _ => ?_)
    · refine x_iload C 1256 0 dL_law_1256 rfl ?_
      have hJ1273 : ∀ (σ_1273 : Wd) (v8_1273 : Int32) (v9_1273 : Int32) (v10_1273 : Int32) (v12_1273 : Int32) (v13_1273 : Int32) (v14_1273 : Int32) (v15_1273 : Int32) (v16_1273 : Int32) (v17_1273 : Int32) (v18_1273 : Int32) (v19_1273 : Int32) (v20_1273 : Int32) (v21_1273 : Int32) (t0_1273 : Int32), Y K (Zl V A q) (M_L_law_J1273 q σ_1273 v6_107 v7_114 v8_1273 v9_1273 v10_1273 v12_1273 v13_1273 v14_1273 v15_1273 v16_1273 v17_1273 v18_1273 v19_1273 v20_1273 v21_1273 t0_1273) E120 σ_1273 1273 [(1, .ref (A 0)), (3, .ref (zA (Zl V A q) 0)), (4, .ref (A 1)), (6, .int v6_107), (7, .int v7_114), (8, .int v8_1273), (9, .int v9_1273), (10, .int v10_1273), (12, .int v12_1273), (13, .int v13_1273), (14, .int v14_1273), (15, .int v15_1273), (16, .int v16_1273), (17, .int v17_1273), (18, .int v18_1273), (19, .int v19_1273), (20, .int v20_1273), (21, .int v21_1273)] [.int t0_1273] := c_LJ1273 C hNW hN R hJ1410
      have hJ1272 : ∀ (σ_1272 : Wd) (v8_1272 : Int32) (v9_1272 : Int32) (v10_1272 : Int32) (v12_1272 : Int32) (v13_1272 : Int32) (v14_1272 : Int32) (v15_1272 : Int32) (v16_1272 : Int32) (v17_1272 : Int32) (v18_1272 : Int32) (v19_1272 : Int32) (v20_1272 : Int32) (v21_1272 : Int32), Y K (Zl V A q) (M_L_law_J1272 q σ_1272 v6_107 v7_114 v8_1272 v9_1272 v10_1272 v12_1272 v13_1272 v14_1272 v15_1272 v16_1272 v17_1272 v18_1272 v19_1272 v20_1272 v21_1272) E120 σ_1272 1272 [(1, .ref (A 0)), (3, .ref (zA (Zl V A q) 0)), (4, .ref (A 1)), (6, .int v6_107), (7, .int v7_114), (8, .int v8_1272), (9, .int v9_1272), (10, .int v10_1272), (12, .int v12_1272), (13, .int v13_1272), (14, .int v14_1272), (15, .int v15_1272), (16, .int v16_1272), (17, .int v17_1272), (18, .int v18_1272), (19, .int v19_1272), (20, .int v20_1272), (21, .int v21_1272)] [] := c_LJ1272 C hNW hN R hJ1273
      refine x_if_eq C 1258 1272 dL_law_1258 (by decide) (fun _ => ?_) (fun _ => ?_)
      · refine Y_sub [1, 2, 3, 4, 5, 6, 7, 8, 9, 10, 11, 12, 13, 14, 15, 16, 17, 18] rfl ?_
        exact hJ1272 _ _ _ _ _ _ _ _ _ _ _ _ _ _
      · refine x_aload_n C 1261 2 dL_law_1261 rfl ?_
        refine Y_bnd2 (fun r1262 s_1262 h1262 => ?_)
        refine x_callLV C 1262 [] [] rfl tw_861 mv_X8_undo rfl (Nat.le_of_ble_eq_true rfl) (Nat.le_of_ble_eq_true rfl) (Nat.le_of_ble_eq_true rfl) dL_law_1262 (c_X8_undo V _ _  h1262) ?_
        refine x_if_eq C 1265 1272 dL_law_1265 (by decide) (fun _ => ?_) (fun _ => ?_)
        · refine Y_sub [1, 2, 3, 4, 5, 6, 7, 8, 9, 10, 11, 12, 13, 14, 15, 16, 17, 18] rfl ?_
          exact hJ1272 _ _ _ _ _ _ _ _ _ _ _ _ _ _
        · refine x_iconst C 1268 dL_law_1268 ki_1 ?_
          refine x_goto C 1269 1273 dL_law_1269 (by decide) ?_
          refine Y_sub [1, 2, 3, 4, 5, 6, 7, 8, 9, 10, 11, 12, 13, 14, 15, 16, 17, 18] rfl ?_
          exact hJ1273 _ _ _ _ _ _ _ _ _ _ _ _ _ _ _
    · refine x_goto C 1253 1410 dL_law_1253 (by decide) ?_
      refine Y_sub [1, 2, 3, 0, 4, 5, 6, 7, 8, 9, 10, 11, 12, 13, 14, 15, 16, 17, 18, 19] rfl ?_
      exact hJ1410 _ _ _ _ _ _ _ _ _ _ _ _ _ _ _ _
set_option maxRecDepth 100000 in
set_option maxHeartbeats 40000000 in
theorem c_LJ1233 {V : Ct_V} {A : Nat → Nat} {q : Lq} {K : Kt} (C : Fx K (Zl V A q) cL_law RL 7 171) (hNW : ∀ w ∈ NWl, va_Nw w K.2.2.2.2.1) (hN : ∀ i, i < 30 → ∀ K2 : Kt, K = K2 → i < K2.2.2.2.2.2.2.2.2.2.2.1) (R : Lr K (Zl V A q)) {E120 : ((Int32 × Int32 × Wd) ⊕ (Int32 × Wd)) → Prop} {v6_107 : Int32} {v7_114 : Int32} (hJ1234 : ∀ (σ_1234 : Wd) (v8_1234 : Int32) (v9_1234 : Int32) (v10_1234 : Int32) (v12_1234 : Int32) (v13_1234 : Int32) (v14_1234 : Int32) (v15_1234 : Int32) (v16_1234 : Int32) (v17_1234 : Int32) (v18_1234 : Int32) (v19_1234 : Int32) (v20_1234 : Int32) (v21_1234 : Int32) (v23_1234 : Int32) (t0_1234 : Int32), Y K (Zl V A q) (M_L_law_J1234 q σ_1234 v6_107 v7_114 v8_1234 v9_1234 v10_1234 v12_1234 v13_1234 v14_1234 v15_1234 v16_1234 v17_1234 v18_1234 v19_1234 v20_1234 v21_1234 v23_1234 t0_1234) E120 σ_1234 1234 [(1, .ref (A 0)), (3, .ref (zA (Zl V A q) 0)), (4, .ref (A 1)), (6, .int v6_107), (7, .int v7_114), (8, .int v8_1234), (9, .int v9_1234), (10, .int v10_1234), (12, .int v12_1234), (13, .int v13_1234), (14, .int v14_1234), (15, .int v15_1234), (16, .int v16_1234), (17, .int v17_1234), (18, .int v18_1234), (19, .int v19_1234), (20, .int v20_1234), (21, .int v21_1234), (23, .int v23_1234)] [.int t0_1234]) : ∀ (σ_1233 : Wd) (v8_1233 : Int32) (v9_1233 : Int32) (v10_1233 : Int32) (v12_1233 : Int32) (v13_1233 : Int32) (v14_1233 : Int32) (v15_1233 : Int32) (v16_1233 : Int32) (v17_1233 : Int32) (v18_1233 : Int32) (v19_1233 : Int32) (v20_1233 : Int32) (v21_1233 : Int32) (v23_1233 : Int32), Y K (Zl V A q) (M_L_law_J1233 q σ_1233 v6_107 v7_114 v8_1233 v9_1233 v10_1233 v12_1233 v13_1233 v14_1233 v15_1233 v16_1233 v17_1233 v18_1233 v19_1233 v20_1233 v21_1233 v23_1233) E120 σ_1233 1233 [(1, .ref (A 0)), (3, .ref (zA (Zl V A q) 0)), (4, .ref (A 1)), (6, .int v6_107), (7, .int v7_114), (8, .int v8_1233), (9, .int v9_1233), (10, .int v10_1233), (12, .int v12_1233), (13, .int v13_1233), (14, .int v14_1233), (15, .int v15_1233), (16, .int v16_1233), (17, .int v17_1233), (18, .int v18_1233), (19, .int v19_1233), (20, .int v20_1233), (21, .int v21_1233), (23, .int v23_1233)] [] := by
  intro σ_1233 v8_1233 v9_1233 v10_1233 v12_1233 v13_1233 v14_1233 v15_1233 v16_1233 v17_1233 v18_1233 v19_1233 v20_1233 v21_1233 v23_1233
  unfold M_L_law_J1233
  refine x_iconst C 1233 dL_law_1233 ki_0 ?_
  exact hJ1234 _ _ _ _ _ _ _ _ _ _ _ _ _ _ _ _
set_option maxRecDepth 100000 in
set_option maxHeartbeats 40000000 in
theorem c_LJ1215 {V : Ct_V} {A : Nat → Nat} {q : Lq} {K : Kt} (C : Fx K (Zl V A q) cL_law RL 7 171) (hNW : ∀ w ∈ NWl, va_Nw w K.2.2.2.2.1) (hN : ∀ i, i < 30 → ∀ K2 : Kt, K = K2 → i < K2.2.2.2.2.2.2.2.2.2.2.1) (R : Lr K (Zl V A q)) {E120 : ((Int32 × Int32 × Wd) ⊕ (Int32 × Wd)) → Prop} {v6_107 : Int32} {v7_114 : Int32} (hJ1410 : ∀ (σ_1410 : Wd) (v5_1410 : Int32) (v8_1410 : Int32) (v9_1410 : Int32) (v10_1410 : Int32) (v12_1410 : Int32) (v13_1410 : Int32) (v14_1410 : Int32) (v15_1410 : Int32) (v16_1410 : Int32) (v17_1410 : Int32) (v18_1410 : Int32) (v19_1410 : Int32) (v20_1410 : Int32) (v21_1410 : Int32) (v23_1410 : Int32), Y K (Zl V A q) (M_L_law_J1410 q σ_1410 v5_1410 v6_107 v7_114 v8_1410 v9_1410 v10_1410 v12_1410 v13_1410 v14_1410 v15_1410 v16_1410 v17_1410 v18_1410 v19_1410 v20_1410 v21_1410 v23_1410) E120 σ_1410 1410 [(1, .ref (A 0)), (3, .ref (zA (Zl V A q) 0)), (4, .ref (A 1)), (5, .int v5_1410), (6, .int v6_107), (7, .int v7_114), (8, .int v8_1410), (9, .int v9_1410), (10, .int v10_1410), (12, .int v12_1410), (13, .int v13_1410), (14, .int v14_1410), (15, .int v15_1410), (16, .int v16_1410), (17, .int v17_1410), (18, .int v18_1410), (19, .int v19_1410), (20, .int v20_1410), (21, .int v21_1410), (23, .int v23_1410)] []) : ∀ (σ_1215 : Wd) (v8_1215 : Int32) (v9_1215 : Int32) (v10_1215 : Int32) (v12_1215 : Int32) (v13_1215 : Int32) (v14_1215 : Int32) (v15_1215 : Int32) (v16_1215 : Int32) (v17_1215 : Int32) (v18_1215 : Int32) (v19_1215 : Int32) (v20_1215 : Int32) (v21_1215 : Int32) (v23_1215 : Int32) (v24_1215 : Int32) (t0_1215 : Int32) (t1_1215 : Int32), Y K (Zl V A q) (M_L_law_J1215 q σ_1215 v6_107 v7_114 v8_1215 v9_1215 v10_1215 v12_1215 v13_1215 v14_1215 v15_1215 v16_1215 v17_1215 v18_1215 v19_1215 v20_1215 v21_1215 v23_1215 v24_1215 t0_1215 t1_1215) E120 σ_1215 1215 [(1, .ref (A 0)), (3, .ref (zA (Zl V A q) 0)), (4, .ref (A 1)), (6, .int v6_107), (7, .int v7_114), (8, .int v8_1215), (9, .int v9_1215), (10, .int v10_1215), (12, .int v12_1215), (13, .int v13_1215), (14, .int v14_1215), (15, .int v15_1215), (16, .int v16_1215), (17, .int v17_1215), (18, .int v18_1215), (19, .int v19_1215), (20, .int v20_1215), (21, .int v21_1215), (23, .int v23_1215), (24, .int v24_1215)] [.int t0_1215, .int t1_1215] := by
  intro σ_1215 v8_1215 v9_1215 v10_1215 v12_1215 v13_1215 v14_1215 v15_1215 v16_1215 v17_1215 v18_1215 v19_1215 v20_1215 v21_1215 v23_1215 v24_1215 t0_1215 t1_1215
  unfold M_L_law_J1215
  have hJ1234 : ∀ (σ_1234 : Wd) (v8_1234 : Int32) (v9_1234 : Int32) (v10_1234 : Int32) (v12_1234 : Int32) (v13_1234 : Int32) (v14_1234 : Int32) (v15_1234 : Int32) (v16_1234 : Int32) (v17_1234 : Int32) (v18_1234 : Int32) (v19_1234 : Int32) (v20_1234 : Int32) (v21_1234 : Int32) (v23_1234 : Int32) (t0_1234 : Int32), Y K (Zl V A q) (M_L_law_J1234 q σ_1234 v6_107 v7_114 v8_1234 v9_1234 v10_1234 v12_1234 v13_1234 v14_1234 v15_1234 v16_1234 v17_1234 v18_1234 v19_1234 v20_1234 v21_1234 v23_1234 t0_1234) E120 σ_1234 1234 [(1, .ref (A 0)), (3, .ref (zA (Zl V A q) 0)), (4, .ref (A 1)), (6, .int v6_107), (7, .int v7_114), (8, .int v8_1234), (9, .int v9_1234), (10, .int v10_1234), (12, .int v12_1234), (13, .int v13_1234), (14, .int v14_1234), (15, .int v15_1234), (16, .int v16_1234), (17, .int v17_1234), (18, .int v18_1234), (19, .int v19_1234), (20, .int v20_1234), (21, .int v21_1234), (23, .int v23_1234)] [.int t0_1234] := c_LJ1234 C hNW hN R hJ1410
  have hJ1233 : ∀ (σ_1233 : Wd) (v8_1233 : Int32) (v9_1233 : Int32) (v10_1233 : Int32) (v12_1233 : Int32) (v13_1233 : Int32) (v14_1233 : Int32) (v15_1233 : Int32) (v16_1233 : Int32) (v17_1233 : Int32) (v18_1233 : Int32) (v19_1233 : Int32) (v20_1233 : Int32) (v21_1233 : Int32) (v23_1233 : Int32), Y K (Zl V A q) (M_L_law_J1233 q σ_1233 v6_107 v7_114 v8_1233 v9_1233 v10_1233 v12_1233 v13_1233 v14_1233 v15_1233 v16_1233 v17_1233 v18_1233 v19_1233 v20_1233 v21_1233 v23_1233) E120 σ_1233 1233 [(1, .ref (A 0)), (3, .ref (zA (Zl V A q) 0)), (4, .ref (A 1)), (6, .int v6_107), (7, .int v7_114), (8, .int v8_1233), (9, .int v9_1233), (10, .int v10_1233), (12, .int v12_1233), (13, .int v13_1233), (14, .int v14_1233), (15, .int v15_1233), (16, .int v16_1233), (17, .int v17_1233), (18, .int v18_1233), (19, .int v19_1233), (20, .int v20_1233), (21, .int v21_1233), (23, .int v23_1233)] [] := c_LJ1233 C hNW hN R hJ1234
  refine x_icmp_ne C 1215 1233 dL_law_1215 (by decide) (fun _ => ?_) (fun _ => ?_)
  · refine Y_sub [0, 1, 2, 3, 4, 5, 6, 7, 8, 9, 10, 11, 12, 13, 14, 15, 16, 17, 18] rfl ?_
    exact hJ1233 _ _ _ _ _ _ _ _ _ _ _ _ _ _ _
  · refine x_aload_n C 1218 1 dL_law_1218 rfl ?_
    refine x_iconst C 1219 dL_law_1219 ki_0 ?_
    refine x_iconst C 1220 dL_law_1220 ki_0 ?_
    refine Y_bnd1 (fun r1221 h1221 => ?_)
    refine x_callLV C 1221 [.int (0 : Int32), .int (0 : Int32)] [] rfl tw_950 mv_X8_session rfl (Nat.le_of_ble_eq_true rfl) (Nat.le_of_ble_eq_true rfl) (Nat.le_of_ble_eq_true rfl) dL_law_1221 (c_X8_session V _ _ _ _ h1221) ?_
    refine x_iload C 1224 19 dL_law_1224 rfl ?_
    refine x_icmp_ne C 1226 1233 dL_law_1226 (by decide) (fun _ => ?_) (fun _ => ?_)
    · refine Y_sub [0, 1, 2, 3, 4, 5, 6, 7, 8, 9, 10, 11, 12, 13, 14, 15, 16, 17, 18] rfl ?_
      exact hJ1233 _ _ _ _ _ _ _ _ _ _ _ _ _ _ _
    · refine x_iconst C 1229 dL_law_1229 ki_1 ?_
      refine x_goto C 1230 1234 dL_law_1230 (by decide) ?_
      refine Y_sub [0, 1, 2, 3, 4, 5, 6, 7, 8, 9, 10, 11, 12, 13, 14, 15, 16, 17, 18] rfl ?_
      exact hJ1234 _ _ _ _ _ _ _ _ _ _ _ _ _ _ _ _
set_option maxRecDepth 100000 in
set_option maxHeartbeats 40000000 in
theorem c_LJ1408 {V : Ct_V} {A : Nat → Nat} {q : Lq} {K : Kt} (C : Fx K (Zl V A q) cL_law RL 7 171) (hNW : ∀ w ∈ NWl, va_Nw w K.2.2.2.2.1) (hN : ∀ i, i < 30 → ∀ K2 : Kt, K = K2 → i < K2.2.2.2.2.2.2.2.2.2.2.1) (R : Lr K (Zl V A q)) {E120 : ((Int32 × Int32 × Wd) ⊕ (Int32 × Wd)) → Prop} {v6_107 : Int32} {v7_114 : Int32} (hJ1410 : ∀ (σ_1410 : Wd) (v5_1410 : Int32) (v8_1410 : Int32) (v9_1410 : Int32) (v10_1410 : Int32) (v12_1410 : Int32) (v13_1410 : Int32) (v14_1410 : Int32) (v15_1410 : Int32) (v16_1410 : Int32) (v17_1410 : Int32) (v18_1410 : Int32) (v19_1410 : Int32) (v20_1410 : Int32) (v21_1410 : Int32) (v23_1410 : Int32), Y K (Zl V A q) (M_L_law_J1410 q σ_1410 v5_1410 v6_107 v7_114 v8_1410 v9_1410 v10_1410 v12_1410 v13_1410 v14_1410 v15_1410 v16_1410 v17_1410 v18_1410 v19_1410 v20_1410 v21_1410 v23_1410) E120 σ_1410 1410 [(1, .ref (A 0)), (3, .ref (zA (Zl V A q) 0)), (4, .ref (A 1)), (5, .int v5_1410), (6, .int v6_107), (7, .int v7_114), (8, .int v8_1410), (9, .int v9_1410), (10, .int v10_1410), (12, .int v12_1410), (13, .int v13_1410), (14, .int v14_1410), (15, .int v15_1410), (16, .int v16_1410), (17, .int v17_1410), (18, .int v18_1410), (19, .int v19_1410), (20, .int v20_1410), (21, .int v21_1410), (23, .int v23_1410)] []) : ∀ (σ_1408 : Wd) (v8_1408 : Int32) (v9_1408 : Int32) (v10_1408 : Int32) (v12_1408 : Int32) (v13_1408 : Int32) (v14_1408 : Int32) (v15_1408 : Int32) (v16_1408 : Int32) (v17_1408 : Int32) (v18_1408 : Int32) (v19_1408 : Int32) (v20_1408 : Int32) (v21_1408 : Int32) (v23_1408 : Int32) (t0_1408 : Int32), Y K (Zl V A q) (M_L_law_J1408 q σ_1408 v6_107 v7_114 v8_1408 v9_1408 v10_1408 v12_1408 v13_1408 v14_1408 v15_1408 v16_1408 v17_1408 v18_1408 v19_1408 v20_1408 v21_1408 v23_1408 t0_1408) E120 σ_1408 1408 [(1, .ref (A 0)), (3, .ref (zA (Zl V A q) 0)), (4, .ref (A 1)), (6, .int v6_107), (7, .int v7_114), (8, .int v8_1408), (9, .int v9_1408), (10, .int v10_1408), (12, .int v12_1408), (13, .int v13_1408), (14, .int v14_1408), (15, .int v15_1408), (16, .int v16_1408), (17, .int v17_1408), (18, .int v18_1408), (19, .int v19_1408), (20, .int v20_1408), (21, .int v21_1408), (23, .int v23_1408)] [.int t0_1408] := by
  intro σ_1408 v8_1408 v9_1408 v10_1408 v12_1408 v13_1408 v14_1408 v15_1408 v16_1408 v17_1408 v18_1408 v19_1408 v20_1408 v21_1408 v23_1408 t0_1408
  unfold M_L_law_J1408
  refine x_istore C 1408 (L' := [(5, .int t0_1408), (1, .ref (A 0)), (3, .ref (zA (Zl V A q) 0)), (4, .ref (A 1)), (6, .int v6_107), (7, .int v7_114), (8, .int v8_1408), (9, .int v9_1408), (10, .int v10_1408), (12, .int v12_1408), (13, .int v13_1408), (14, .int v14_1408), (15, .int v15_1408), (16, .int v16_1408), (17, .int v17_1408), (18, .int v18_1408), (19, .int v19_1408), (20, .int v20_1408), (21, .int v21_1408), (23, .int v23_1408)]) dL_law_1408 (hN _ (Nat.le_of_ble_eq_true rfl)) rfl ?_
  refine Y_sub [1, 2, 3, 0, 4, 5, 6, 7, 8, 9, 10, 11, 12, 13, 14, 15, 16, 17, 18, 19] rfl ?_
  exact hJ1410 _ _ _ _ _ _ _ _ _ _ _ _ _ _ _ _
set_option maxRecDepth 100000 in
set_option maxHeartbeats 40000000 in
theorem c_LJ1407 {V : Ct_V} {A : Nat → Nat} {q : Lq} {K : Kt} (C : Fx K (Zl V A q) cL_law RL 7 171) (hNW : ∀ w ∈ NWl, va_Nw w K.2.2.2.2.1) (hN : ∀ i, i < 30 → ∀ K2 : Kt, K = K2 → i < K2.2.2.2.2.2.2.2.2.2.2.1) (R : Lr K (Zl V A q)) {E120 : ((Int32 × Int32 × Wd) ⊕ (Int32 × Wd)) → Prop} {v6_107 : Int32} {v7_114 : Int32} (hJ1408 : ∀ (σ_1408 : Wd) (v8_1408 : Int32) (v9_1408 : Int32) (v10_1408 : Int32) (v12_1408 : Int32) (v13_1408 : Int32) (v14_1408 : Int32) (v15_1408 : Int32) (v16_1408 : Int32) (v17_1408 : Int32) (v18_1408 : Int32) (v19_1408 : Int32) (v20_1408 : Int32) (v21_1408 : Int32) (v23_1408 : Int32) (t0_1408 : Int32), Y K (Zl V A q) (M_L_law_J1408 q σ_1408 v6_107 v7_114 v8_1408 v9_1408 v10_1408 v12_1408 v13_1408 v14_1408 v15_1408 v16_1408 v17_1408 v18_1408 v19_1408 v20_1408 v21_1408 v23_1408 t0_1408) E120 σ_1408 1408 [(1, .ref (A 0)), (3, .ref (zA (Zl V A q) 0)), (4, .ref (A 1)), (6, .int v6_107), (7, .int v7_114), (8, .int v8_1408), (9, .int v9_1408), (10, .int v10_1408), (12, .int v12_1408), (13, .int v13_1408), (14, .int v14_1408), (15, .int v15_1408), (16, .int v16_1408), (17, .int v17_1408), (18, .int v18_1408), (19, .int v19_1408), (20, .int v20_1408), (21, .int v21_1408), (23, .int v23_1408)] [.int t0_1408]) : ∀ (σ_1407 : Wd) (v8_1407 : Int32) (v9_1407 : Int32) (v10_1407 : Int32) (v12_1407 : Int32) (v13_1407 : Int32) (v14_1407 : Int32) (v15_1407 : Int32) (v16_1407 : Int32) (v17_1407 : Int32) (v18_1407 : Int32) (v19_1407 : Int32) (v20_1407 : Int32) (v21_1407 : Int32) (v23_1407 : Int32), Y K (Zl V A q) (M_L_law_J1407 q σ_1407 v6_107 v7_114 v8_1407 v9_1407 v10_1407 v12_1407 v13_1407 v14_1407 v15_1407 v16_1407 v17_1407 v18_1407 v19_1407 v20_1407 v21_1407 v23_1407) E120 σ_1407 1407 [(1, .ref (A 0)), (3, .ref (zA (Zl V A q) 0)), (4, .ref (A 1)), (6, .int v6_107), (7, .int v7_114), (8, .int v8_1407), (9, .int v9_1407), (10, .int v10_1407), (12, .int v12_1407), (13, .int v13_1407), (14, .int v14_1407), (15, .int v15_1407), (16, .int v16_1407), (17, .int v17_1407), (18, .int v18_1407), (19, .int v19_1407), (20, .int v20_1407), (21, .int v21_1407), (23, .int v23_1407)] [] := by
  intro σ_1407 v8_1407 v9_1407 v10_1407 v12_1407 v13_1407 v14_1407 v15_1407 v16_1407 v17_1407 v18_1407 v19_1407 v20_1407 v21_1407 v23_1407
  unfold M_L_law_J1407
  refine x_iconst C 1407 dL_law_1407 ki_0 ?_
  exact hJ1408 _ _ _ _ _ _ _ _ _ _ _ _ _ _ _ _
set_option maxRecDepth 100000 in
set_option maxHeartbeats 40000000 in
theorem c_LJ1376 {V : Ct_V} {A : Nat → Nat} {q : Lq} {K : Kt} (C : Fx K (Zl V A q) cL_law RL 7 171) (hNW : ∀ w ∈ NWl, va_Nw w K.2.2.2.2.1) (hN : ∀ i, i < 30 → ∀ K2 : Kt, K = K2 → i < K2.2.2.2.2.2.2.2.2.2.2.1) (R : Lr K (Zl V A q)) {E120 : ((Int32 × Int32 × Wd) ⊕ (Int32 × Wd)) → Prop} {v6_107 : Int32} {v7_114 : Int32} (hJ1410 : ∀ (σ_1410 : Wd) (v5_1410 : Int32) (v8_1410 : Int32) (v9_1410 : Int32) (v10_1410 : Int32) (v12_1410 : Int32) (v13_1410 : Int32) (v14_1410 : Int32) (v15_1410 : Int32) (v16_1410 : Int32) (v17_1410 : Int32) (v18_1410 : Int32) (v19_1410 : Int32) (v20_1410 : Int32) (v21_1410 : Int32) (v23_1410 : Int32), Y K (Zl V A q) (M_L_law_J1410 q σ_1410 v5_1410 v6_107 v7_114 v8_1410 v9_1410 v10_1410 v12_1410 v13_1410 v14_1410 v15_1410 v16_1410 v17_1410 v18_1410 v19_1410 v20_1410 v21_1410 v23_1410) E120 σ_1410 1410 [(1, .ref (A 0)), (3, .ref (zA (Zl V A q) 0)), (4, .ref (A 1)), (5, .int v5_1410), (6, .int v6_107), (7, .int v7_114), (8, .int v8_1410), (9, .int v9_1410), (10, .int v10_1410), (12, .int v12_1410), (13, .int v13_1410), (14, .int v14_1410), (15, .int v15_1410), (16, .int v16_1410), (17, .int v17_1410), (18, .int v18_1410), (19, .int v19_1410), (20, .int v20_1410), (21, .int v21_1410), (23, .int v23_1410)] []) : ∀ (σ_1376 : Wd) (v8_1376 : Int32) (v9_1376 : Int32) (v10_1376 : Int32) (v12_1376 : Int32) (v13_1376 : Int32) (v14_1376 : Int32) (v15_1376 : Int32) (v16_1376 : Int32) (v17_1376 : Int32) (v18_1376 : Int32) (v19_1376 : Int32) (v20_1376 : Int32) (v21_1376 : Int32) (v22_1376 : Int32) (v24_1376 : Int32) (t0_1376 : Int32), Y K (Zl V A q) (M_L_law_J1376 q σ_1376 v6_107 v7_114 v8_1376 v9_1376 v10_1376 v12_1376 v13_1376 v14_1376 v15_1376 v16_1376 v17_1376 v18_1376 v19_1376 v20_1376 v21_1376 v22_1376 v24_1376 t0_1376) E120 σ_1376 1376 [(1, .ref (A 0)), (3, .ref (zA (Zl V A q) 0)), (4, .ref (A 1)), (6, .int v6_107), (7, .int v7_114), (8, .int v8_1376), (9, .int v9_1376), (10, .int v10_1376), (12, .int v12_1376), (13, .int v13_1376), (14, .int v14_1376), (15, .int v15_1376), (16, .int v16_1376), (17, .int v17_1376), (18, .int v18_1376), (19, .int v19_1376), (20, .int v20_1376), (21, .int v21_1376), (22, .int v22_1376), (24, .int v24_1376)] [.int t0_1376] := by
  intro σ_1376 v8_1376 v9_1376 v10_1376 v12_1376 v13_1376 v14_1376 v15_1376 v16_1376 v17_1376 v18_1376 v19_1376 v20_1376 v21_1376 v22_1376 v24_1376 t0_1376
  unfold M_L_law_J1376
  refine x_istore C 1376 (L' := [(23, .int t0_1376), (1, .ref (A 0)), (3, .ref (zA (Zl V A q) 0)), (4, .ref (A 1)), (6, .int v6_107), (7, .int v7_114), (8, .int v8_1376), (9, .int v9_1376), (10, .int v10_1376), (12, .int v12_1376), (13, .int v13_1376), (14, .int v14_1376), (15, .int v15_1376), (16, .int v16_1376), (17, .int v17_1376), (18, .int v18_1376), (19, .int v19_1376), (20, .int v20_1376), (21, .int v21_1376), (22, .int v22_1376), (24, .int v24_1376)]) dL_law_1376 (hN _ (Nat.le_of_ble_eq_true rfl)) rfl ?_
  refine x_aload_n C 1378 2 dL_law_1378 rfl ?_
  refine x_iload C 1379 20 dL_law_1379 rfl ?_
  refine Y_bnd2 (fun r1381 s_1381 h1381 => ?_)
  refine x_callLV C 1381 [.int v24_1376] [] rfl tw_836 mv_X8_chance rfl (Nat.le_of_ble_eq_true rfl) (Nat.le_of_ble_eq_true rfl) (Nat.le_of_ble_eq_true rfl) dL_law_1381 (c_X8_chance V _ _ _ h1381) ?_
  refine x_iload C 1384 19 dL_law_1384 rfl ?_
  refine x_iload C 1386 20 dL_law_1386 rfl ?_
  refine x_iadd C 1388 dL_law_1388 ?_
  have hJ1408 : ∀ (σ_1408 : Wd) (v8_1408 : Int32) (v9_1408 : Int32) (v10_1408 : Int32) (v12_1408 : Int32) (v13_1408 : Int32) (v14_1408 : Int32) (v15_1408 : Int32) (v16_1408 : Int32) (v17_1408 : Int32) (v18_1408 : Int32) (v19_1408 : Int32) (v20_1408 : Int32) (v21_1408 : Int32) (v23_1408 : Int32) (t0_1408 : Int32), Y K (Zl V A q) (M_L_law_J1408 q σ_1408 v6_107 v7_114 v8_1408 v9_1408 v10_1408 v12_1408 v13_1408 v14_1408 v15_1408 v16_1408 v17_1408 v18_1408 v19_1408 v20_1408 v21_1408 v23_1408 t0_1408) E120 σ_1408 1408 [(1, .ref (A 0)), (3, .ref (zA (Zl V A q) 0)), (4, .ref (A 1)), (6, .int v6_107), (7, .int v7_114), (8, .int v8_1408), (9, .int v9_1408), (10, .int v10_1408), (12, .int v12_1408), (13, .int v13_1408), (14, .int v14_1408), (15, .int v15_1408), (16, .int v16_1408), (17, .int v17_1408), (18, .int v18_1408), (19, .int v19_1408), (20, .int v20_1408), (21, .int v21_1408), (23, .int v23_1408)] [.int t0_1408] := c_LJ1408 C hNW hN R hJ1410
  have hJ1407 : ∀ (σ_1407 : Wd) (v8_1407 : Int32) (v9_1407 : Int32) (v10_1407 : Int32) (v12_1407 : Int32) (v13_1407 : Int32) (v14_1407 : Int32) (v15_1407 : Int32) (v16_1407 : Int32) (v17_1407 : Int32) (v18_1407 : Int32) (v19_1407 : Int32) (v20_1407 : Int32) (v21_1407 : Int32) (v23_1407 : Int32), Y K (Zl V A q) (M_L_law_J1407 q σ_1407 v6_107 v7_114 v8_1407 v9_1407 v10_1407 v12_1407 v13_1407 v14_1407 v15_1407 v16_1407 v17_1407 v18_1407 v19_1407 v20_1407 v21_1407 v23_1407) E120 σ_1407 1407 [(1, .ref (A 0)), (3, .ref (zA (Zl V A q) 0)), (4, .ref (A 1)), (6, .int v6_107), (7, .int v7_114), (8, .int v8_1407), (9, .int v9_1407), (10, .int v10_1407), (12, .int v12_1407), (13, .int v13_1407), (14, .int v14_1407), (15, .int v15_1407), (16, .int v16_1407), (17, .int v17_1407), (18, .int v18_1407), (19, .int v19_1407), (20, .int v20_1407), (21, .int v21_1407), (23, .int v23_1407)] [] := c_LJ1407 C hNW hN R hJ1408
  refine x_icmp_ne C 1389 1407 dL_law_1389 (by decide) (fun _ => ?_) (fun _ => ?_)
  · refine Y_sub [1, 2, 3, 4, 5, 6, 7, 8, 9, 10, 11, 12, 13, 14, 15, 16, 17, 18, 0] rfl ?_
    exact hJ1407 _ _ _ _ _ _ _ _ _ _ _ _ _ _ _
  · refine x_aload_n C 1392 2 dL_law_1392 rfl ?_
    refine x_bipush C 1393 dL_law_1393 kb_7 ?_
    refine Y_bnd2 (fun r1395 s_1395 h1395 => ?_)
    refine x_callLV C 1395 [.int (7 : Int32)] [] rfl tw_1117 mv_X8_count rfl (Nat.le_of_ble_eq_true rfl) (Nat.le_of_ble_eq_true rfl) (Nat.le_of_ble_eq_true rfl) dL_law_1395 (c_X8_count V _ _ _ h1395) ?_
    refine x_iload C 1398 11 dL_law_1398 rfl ?_
    refine x_icmp_lt C 1400 1407 dL_law_1400 (by decide) (fun _ => ?_) (fun _ => ?_)
    · refine Y_sub [1, 2, 3, 4, 5, 6, 7, 8, 9, 10, 11, 12, 13, 14, 15, 16, 17, 18, 0] rfl ?_
      exact hJ1407 _ _ _ _ _ _ _ _ _ _ _ _ _ _ _
    · refine x_iconst C 1403 dL_law_1403 ki_1 ?_
      refine x_goto C 1404 1408 dL_law_1404 (by decide) ?_
      refine Y_sub [1, 2, 3, 4, 5, 6, 7, 8, 9, 10, 11, 12, 13, 14, 15, 16, 17, 18, 0] rfl ?_
      exact hJ1408 _ _ _ _ _ _ _ _ _ _ _ _ _ _ _ _
set_option maxRecDepth 100000 in
set_option maxHeartbeats 40000000 in
theorem c_LJ1361 {V : Ct_V} {A : Nat → Nat} {q : Lq} {K : Kt} (C : Fx K (Zl V A q) cL_law RL 7 171) (hNW : ∀ w ∈ NWl, va_Nw w K.2.2.2.2.1) (hN : ∀ i, i < 30 → ∀ K2 : Kt, K = K2 → i < K2.2.2.2.2.2.2.2.2.2.2.1) (R : Lr K (Zl V A q)) {E120 : ((Int32 × Int32 × Wd) ⊕ (Int32 × Wd)) → Prop} {v6_107 : Int32} {v7_114 : Int32} (hJ1410 : ∀ (σ_1410 : Wd) (v5_1410 : Int32) (v8_1410 : Int32) (v9_1410 : Int32) (v10_1410 : Int32) (v12_1410 : Int32) (v13_1410 : Int32) (v14_1410 : Int32) (v15_1410 : Int32) (v16_1410 : Int32) (v17_1410 : Int32) (v18_1410 : Int32) (v19_1410 : Int32) (v20_1410 : Int32) (v21_1410 : Int32) (v23_1410 : Int32), Y K (Zl V A q) (M_L_law_J1410 q σ_1410 v5_1410 v6_107 v7_114 v8_1410 v9_1410 v10_1410 v12_1410 v13_1410 v14_1410 v15_1410 v16_1410 v17_1410 v18_1410 v19_1410 v20_1410 v21_1410 v23_1410) E120 σ_1410 1410 [(1, .ref (A 0)), (3, .ref (zA (Zl V A q) 0)), (4, .ref (A 1)), (5, .int v5_1410), (6, .int v6_107), (7, .int v7_114), (8, .int v8_1410), (9, .int v9_1410), (10, .int v10_1410), (12, .int v12_1410), (13, .int v13_1410), (14, .int v14_1410), (15, .int v15_1410), (16, .int v16_1410), (17, .int v17_1410), (18, .int v18_1410), (19, .int v19_1410), (20, .int v20_1410), (21, .int v21_1410), (23, .int v23_1410)] []) : ∀ (σ_1361 : Wd) (v8_1361 : Int32) (v9_1361 : Int32) (v10_1361 : Int32) (v12_1361 : Int32) (v13_1361 : Int32) (v14_1361 : Int32) (v15_1361 : Int32) (v16_1361 : Int32) (v17_1361 : Int32) (v18_1361 : Int32) (v19_1361 : Int32) (v20_1361 : Int32) (v21_1361 : Int32) (v23_1361 : Int32) (t0_1361 : Int32), Y K (Zl V A q) (M_L_law_J1361 q σ_1361 v6_107 v7_114 v8_1361 v9_1361 v10_1361 v12_1361 v13_1361 v14_1361 v15_1361 v16_1361 v17_1361 v18_1361 v19_1361 v20_1361 v21_1361 v23_1361 t0_1361) E120 σ_1361 1361 [(1, .ref (A 0)), (3, .ref (zA (Zl V A q) 0)), (4, .ref (A 1)), (6, .int v6_107), (7, .int v7_114), (8, .int v8_1361), (9, .int v9_1361), (10, .int v10_1361), (12, .int v12_1361), (13, .int v13_1361), (14, .int v14_1361), (15, .int v15_1361), (16, .int v16_1361), (17, .int v17_1361), (18, .int v18_1361), (19, .int v19_1361), (20, .int v20_1361), (21, .int v21_1361), (23, .int v23_1361)] [.int t0_1361] := by
  intro σ_1361 v8_1361 v9_1361 v10_1361 v12_1361 v13_1361 v14_1361 v15_1361 v16_1361 v17_1361 v18_1361 v19_1361 v20_1361 v21_1361 v23_1361 t0_1361
  unfold M_L_law_J1361
  refine x_istore C 1361 (L' := [(5, .int t0_1361), (1, .ref (A 0)), (3, .ref (zA (Zl V A q) 0)), (4, .ref (A 1)), (6, .int v6_107), (7, .int v7_114), (8, .int v8_1361), (9, .int v9_1361), (10, .int v10_1361), (12, .int v12_1361), (13, .int v13_1361), (14, .int v14_1361), (15, .int v15_1361), (16, .int v16_1361), (17, .int v17_1361), (18, .int v18_1361), (19, .int v19_1361), (20, .int v20_1361), (21, .int v21_1361), (23, .int v23_1361)]) dL_law_1361 (hN _ (Nat.le_of_ble_eq_true rfl)) rfl ?_
  refine x_goto C 1363 1410 dL_law_1363 (by decide) ?_
  refine Y_sub [1, 2, 3, 0, 4, 5, 6, 7, 8, 9, 10, 11, 12, 13, 14, 15, 16, 17, 18, 19] rfl ?_
  exact hJ1410 _ _ _ _ _ _ _ _ _ _ _ _ _ _ _ _
set_option maxRecDepth 100000 in
set_option maxHeartbeats 40000000 in
theorem c_LJ1356 {V : Ct_V} {A : Nat → Nat} {q : Lq} {K : Kt} (C : Fx K (Zl V A q) cL_law RL 7 171) (hNW : ∀ w ∈ NWl, va_Nw w K.2.2.2.2.1) (hN : ∀ i, i < 30 → ∀ K2 : Kt, K = K2 → i < K2.2.2.2.2.2.2.2.2.2.2.1) (R : Lr K (Zl V A q)) {E120 : ((Int32 × Int32 × Wd) ⊕ (Int32 × Wd)) → Prop} {v6_107 : Int32} {v7_114 : Int32} (hJ1361 : ∀ (σ_1361 : Wd) (v8_1361 : Int32) (v9_1361 : Int32) (v10_1361 : Int32) (v12_1361 : Int32) (v13_1361 : Int32) (v14_1361 : Int32) (v15_1361 : Int32) (v16_1361 : Int32) (v17_1361 : Int32) (v18_1361 : Int32) (v19_1361 : Int32) (v20_1361 : Int32) (v21_1361 : Int32) (v23_1361 : Int32) (t0_1361 : Int32), Y K (Zl V A q) (M_L_law_J1361 q σ_1361 v6_107 v7_114 v8_1361 v9_1361 v10_1361 v12_1361 v13_1361 v14_1361 v15_1361 v16_1361 v17_1361 v18_1361 v19_1361 v20_1361 v21_1361 v23_1361 t0_1361) E120 σ_1361 1361 [(1, .ref (A 0)), (3, .ref (zA (Zl V A q) 0)), (4, .ref (A 1)), (6, .int v6_107), (7, .int v7_114), (8, .int v8_1361), (9, .int v9_1361), (10, .int v10_1361), (12, .int v12_1361), (13, .int v13_1361), (14, .int v14_1361), (15, .int v15_1361), (16, .int v16_1361), (17, .int v17_1361), (18, .int v18_1361), (19, .int v19_1361), (20, .int v20_1361), (21, .int v21_1361), (23, .int v23_1361)] [.int t0_1361]) : ∀ (σ_1356 : Wd) (v8_1356 : Int32) (v9_1356 : Int32) (v10_1356 : Int32) (v12_1356 : Int32) (v13_1356 : Int32) (v14_1356 : Int32) (v15_1356 : Int32) (v16_1356 : Int32) (v17_1356 : Int32) (v18_1356 : Int32) (v19_1356 : Int32) (v20_1356 : Int32) (v21_1356 : Int32) (v23_1356 : Int32), Y K (Zl V A q) (M_L_law_J1356 q σ_1356 v6_107 v7_114 v8_1356 v9_1356 v10_1356 v12_1356 v13_1356 v14_1356 v15_1356 v16_1356 v17_1356 v18_1356 v19_1356 v20_1356 v21_1356 v23_1356) E120 σ_1356 1356 [(1, .ref (A 0)), (3, .ref (zA (Zl V A q) 0)), (4, .ref (A 1)), (6, .int v6_107), (7, .int v7_114), (8, .int v8_1356), (9, .int v9_1356), (10, .int v10_1356), (12, .int v12_1356), (13, .int v13_1356), (14, .int v14_1356), (15, .int v15_1356), (16, .int v16_1356), (17, .int v17_1356), (18, .int v18_1356), (19, .int v19_1356), (20, .int v20_1356), (21, .int v21_1356), (23, .int v23_1356)] [] := by
  intro σ_1356 v8_1356 v9_1356 v10_1356 v12_1356 v13_1356 v14_1356 v15_1356 v16_1356 v17_1356 v18_1356 v19_1356 v20_1356 v21_1356 v23_1356
  unfold M_L_law_J1356
  refine x_iconst C 1356 dL_law_1356 ki_1 ?_
  refine x_goto C 1357 1361 dL_law_1357 (by decide) ?_
  exact hJ1361 _ _ _ _ _ _ _ _ _ _ _ _ _ _ _ _
set_option maxRecDepth 100000 in
set_option maxHeartbeats 40000000 in
theorem c_LJ1360 {V : Ct_V} {A : Nat → Nat} {q : Lq} {K : Kt} (C : Fx K (Zl V A q) cL_law RL 7 171) (hNW : ∀ w ∈ NWl, va_Nw w K.2.2.2.2.1) (hN : ∀ i, i < 30 → ∀ K2 : Kt, K = K2 → i < K2.2.2.2.2.2.2.2.2.2.2.1) (R : Lr K (Zl V A q)) {E120 : ((Int32 × Int32 × Wd) ⊕ (Int32 × Wd)) → Prop} {v6_107 : Int32} {v7_114 : Int32} (hJ1361 : ∀ (σ_1361 : Wd) (v8_1361 : Int32) (v9_1361 : Int32) (v10_1361 : Int32) (v12_1361 : Int32) (v13_1361 : Int32) (v14_1361 : Int32) (v15_1361 : Int32) (v16_1361 : Int32) (v17_1361 : Int32) (v18_1361 : Int32) (v19_1361 : Int32) (v20_1361 : Int32) (v21_1361 : Int32) (v23_1361 : Int32) (t0_1361 : Int32), Y K (Zl V A q) (M_L_law_J1361 q σ_1361 v6_107 v7_114 v8_1361 v9_1361 v10_1361 v12_1361 v13_1361 v14_1361 v15_1361 v16_1361 v17_1361 v18_1361 v19_1361 v20_1361 v21_1361 v23_1361 t0_1361) E120 σ_1361 1361 [(1, .ref (A 0)), (3, .ref (zA (Zl V A q) 0)), (4, .ref (A 1)), (6, .int v6_107), (7, .int v7_114), (8, .int v8_1361), (9, .int v9_1361), (10, .int v10_1361), (12, .int v12_1361), (13, .int v13_1361), (14, .int v14_1361), (15, .int v15_1361), (16, .int v16_1361), (17, .int v17_1361), (18, .int v18_1361), (19, .int v19_1361), (20, .int v20_1361), (21, .int v21_1361), (23, .int v23_1361)] [.int t0_1361]) : ∀ (σ_1360 : Wd) (v8_1360 : Int32) (v9_1360 : Int32) (v10_1360 : Int32) (v12_1360 : Int32) (v13_1360 : Int32) (v14_1360 : Int32) (v15_1360 : Int32) (v16_1360 : Int32) (v17_1360 : Int32) (v18_1360 : Int32) (v19_1360 : Int32) (v20_1360 : Int32) (v21_1360 : Int32) (v23_1360 : Int32), Y K (Zl V A q) (M_L_law_J1360 q σ_1360 v6_107 v7_114 v8_1360 v9_1360 v10_1360 v12_1360 v13_1360 v14_1360 v15_1360 v16_1360 v17_1360 v18_1360 v19_1360 v20_1360 v21_1360 v23_1360) E120 σ_1360 1360 [(1, .ref (A 0)), (3, .ref (zA (Zl V A q) 0)), (4, .ref (A 1)), (6, .int v6_107), (7, .int v7_114), (8, .int v8_1360), (9, .int v9_1360), (10, .int v10_1360), (12, .int v12_1360), (13, .int v13_1360), (14, .int v14_1360), (15, .int v15_1360), (16, .int v16_1360), (17, .int v17_1360), (18, .int v18_1360), (19, .int v19_1360), (20, .int v20_1360), (21, .int v21_1360), (23, .int v23_1360)] [] := by
  intro σ_1360 v8_1360 v9_1360 v10_1360 v12_1360 v13_1360 v14_1360 v15_1360 v16_1360 v17_1360 v18_1360 v19_1360 v20_1360 v21_1360 v23_1360
  unfold M_L_law_J1360
  refine x_iconst C 1360 dL_law_1360 ki_0 ?_
  exact hJ1361 _ _ _ _ _ _ _ _ _ _ _ _ _ _ _ _
set_option maxRecDepth 100000 in
set_option maxHeartbeats 40000000 in
theorem c_LL120 {V : Ct_V} {A : Nat → Nat} {q : Lq} {K : Kt} (C : Fx K (Zl V A q) cL_law RL 7 171) (hNW : ∀ w ∈ NWl, va_Nw w K.2.2.2.2.1) (hN : ∀ i, i < 30 → ∀ K2 : Kt, K = K2 → i < K2.2.2.2.2.2.2.2.2.2.2.1) (R : Lr K (Zl V A q)) {E120 : ((Int32 × Int32 × Wd) ⊕ (Int32 × Wd)) → Prop} {v6_107 : Int32} {v7_114 : Int32} (hx120 : ∀ x, E120 (.inr x) → ∃ q0, (un2 fun x5_120 sx_120 => (M_L_law_J1933 q sx_120 x5_120 v6_107 v7_114)) x = some q0 ∧ (fun q : Int32 × Wd => q.1 = 1) q0) (hJ1933 : ∀ (σ_1933 : Wd) (v5_1933 : Int32) (v6_1933 : Int32) (v7_1933 : Int32), Y K (Zl V A q) (M_L_law_J1933 q σ_1933 v5_1933 v6_1933 v7_1933) (fun q : Int32 × Wd => q.1 = 1) σ_1933 1933 [(1, .ref (A 0)), (3, .ref (zA (Zl V A q) 0)), (4, .ref (A 1)), (5, .int v5_1933), (6, .int v6_1933), (7, .int v7_1933)] []) (hb120 : ∀ s' : Int32 × Int32 × Wd, E120 (.inl s') → Go K (Zl V A q) ((fun s : Int32 × Int32 × Wd => s.2.2) s') 120 ((fun s : Int32 × Int32 × Wd => [(1, .ref (A 0)), (3, .ref (zA (Zl V A q) 0)), (4, .ref (A 1)), (5, .int s.1), (6, .int v6_107), (7, .int v7_114), (8, .int s.2.1)]) s') []) : ∀ (v5_120 : Int32) (v8_120 : Int32) (s_120 : Wd), Y K (Zl V A q) (M_L_law_L120 q v6_107 v7_114 v5_120 v8_120 s_120) E120 s_120 120 [(1, .ref (A 0)), (3, .ref (zA (Zl V A q) 0)), (4, .ref (A 1)), (5, .int v5_120), (6, .int v6_107), (7, .int v7_114), (8, .int v8_120)] [] := by
  intro v5_120 v8_120 s_120
  unfold M_L_law_L120
  refine x_iload C 120 6 dL_law_120 rfl ?_
  refine x_bipush C 122 dL_law_122 kb_29 ?_
  refine x_icmp_ge C 124 1933 dL_law_124 (by decide) (fun _ => ?_) (fun _ => ?_)
  · refine x_ex2 hx120 v5_120 s_120 ?_
    refine Y_sub [0, 1, 2, 3, 4, 5] rfl ?_
    exact hJ1933 _ _ _ _
  · refine x_iload C 127 3 dL_law_127 rfl ?_
    refine x_if_eq C 129 1933 dL_law_129 (by decide) (fun _ => ?_) (fun _ => ?_)
    · refine x_ex2 hx120 v5_120 s_120 ?_
      refine Y_sub [0, 1, 2, 3, 4, 5] rfl ?_
      exact hJ1933 _ _ _ _
    · refine x_aload_n C 132 0 dL_law_132 rfl ?_
      refine x_iload C 133 6 dL_law_133 rfl ?_
      refine x_script C 135 dL_law_135 (fun _ => ?_)
      refine x_sipush C 136 dL_law_136 ks_255 ?_
      refine x_iand C 139 dL_law_139 ?_
      refine x_iload C 140 4 dL_law_140 rfl ?_
      refine x_iconst C 142 dL_law_142 ki_1 ?_
      refine x_iadd C 143 dL_law_143 ?_
      refine Y_chk (fun q144 => ?_)
      refine x_irem C 144 dL_law_144 q144 ?_
      refine x_istoret C 145 (fun v9_145 => [(9, .int v9_145), (1, .ref (A 0)), (3, .ref (zA (Zl V A q) 0)), (4, .ref (A 1)), (5, .int v5_120), (6, .int v6_107), (7, .int v7_114), (8, .int v8_120)]) dL_law_145 (hN _ (Nat.le_of_ble_eq_true rfl)) (fun _ => rfl) (fun v9_145 => ?_)
      refine x_aload_n C 147 1 dL_law_147 rfl ?_
      refine x_iload C 148 7 dL_law_148 rfl ?_
      refine x_script C 150 dL_law_150 (fun _ => ?_)
      refine x_iconst C 151 dL_law_151 ki_2 ?_
      refine x_ishr C 152 dL_law_152 ?_
      refine x_sipush C 153 dL_law_153 ks_255 ?_
      refine x_iand C 156 dL_law_156 ?_
      refine x_iload C 157 5 dL_law_157 rfl ?_
      refine x_iconst C 159 dL_law_159 ki_1 ?_
      refine x_iadd C 160 dL_law_160 ?_
      refine Y_chk (fun q161 => ?_)
      refine x_irem C 161 dL_law_161 q161 ?_
      refine x_istoret C 162 (fun v10_162 => [(10, .int v10_162), (9, .int v9_145), (1, .ref (A 0)), (3, .ref (zA (Zl V A q) 0)), (4, .ref (A 1)), (5, .int v5_120), (6, .int v6_107), (7, .int v7_114), (8, .int v8_120)]) dL_law_162 (hN _ (Nat.le_of_ble_eq_true rfl)) (fun _ => rfl) (fun v10_162 => ?_)
      refine x_aload_n C 164 2 dL_law_164 rfl ?_
      refine x_iload C 165 8 dL_law_165 rfl ?_
      refine x_script C 167 dL_law_167 (fun _ => ?_)
      refine x_iconst C 168 dL_law_168 ki_4 ?_
      refine x_ishr C 169 dL_law_169 ?_
      refine x_bipush C 170 dL_law_170 kb_7 ?_
      refine x_iand C 172 dL_law_172 ?_
      refine x_iconst C 173 dL_law_173 ki_2 ?_
      refine x_isub C 174 dL_law_174 ?_
      refine x_istoret C 175 (fun v11_175 => [(11, .int v11_175), (10, .int v10_162), (9, .int v9_145), (1, .ref (A 0)), (3, .ref (zA (Zl V A q) 0)), (4, .ref (A 1)), (5, .int v5_120), (6, .int v6_107), (7, .int v7_114), (8, .int v8_120)]) dL_law_175 (hN _ (Nat.le_of_ble_eq_true rfl)) (fun _ => rfl) (fun v11_175 => ?_)
      refine x_aload_n C 177 4 dL_law_177 rfl ?_
      refine x_iconst C 178 dL_law_178 ki_3 ?_
      refine Y_bnd2 (fun r179 s_179 h179 => ?_)
      refine x_callLV C 179 [.int (3 : Int32)] [] rfl tw_1117 mv_X8_count rfl (Nat.le_of_ble_eq_true rfl) (Nat.le_of_ble_eq_true rfl) (Nat.le_of_ble_eq_true rfl) dL_law_179 (c_X8_count V _ _ _ h179) ?_
      refine x_istore C 182 (L' := [(12, .int r179), (11, .int v11_175), (10, .int v10_162), (9, .int v9_145), (1, .ref (A 0)), (3, .ref (zA (Zl V A q) 0)), (4, .ref (A 1)), (5, .int v5_120), (6, .int v6_107), (7, .int v7_114), (8, .int v8_120)]) dL_law_182 (hN _ (Nat.le_of_ble_eq_true rfl)) rfl ?_
      refine x_aload_n C 184 5 dL_law_184 rfl ?_
      refine x_iconst C 185 dL_law_185 ki_4 ?_
      refine Y_bnd2 (fun r186 s_186 h186 => ?_)
      refine x_callLV C 186 [.int (4 : Int32)] [] rfl tw_1117 mv_X8_count rfl (Nat.le_of_ble_eq_true rfl) (Nat.le_of_ble_eq_true rfl) (Nat.le_of_ble_eq_true rfl) dL_law_186 (c_X8_count V _ _ _ h186) ?_
      refine x_istore C 189 (L' := [(13, .int r186), (12, .int r179), (11, .int v11_175), (10, .int v10_162), (9, .int v9_145), (1, .ref (A 0)), (3, .ref (zA (Zl V A q) 0)), (4, .ref (A 1)), (5, .int v5_120), (6, .int v6_107), (7, .int v7_114), (8, .int v8_120)]) dL_law_189 (hN _ (Nat.le_of_ble_eq_true rfl)) rfl ?_
      refine x_aload_n C 191 6 dL_law_191 rfl ?_
      refine x_bipush C 192 dL_law_192 kb_7 ?_
      refine Y_bnd2 (fun r194 s_194 h194 => ?_)
      refine x_callLV C 194 [.int (7 : Int32)] [] rfl tw_1117 mv_X8_count rfl (Nat.le_of_ble_eq_true rfl) (Nat.le_of_ble_eq_true rfl) (Nat.le_of_ble_eq_true rfl) dL_law_194 (c_X8_count V _ _ _ h194) ?_
      refine x_istore C 197 (L' := [(14, .int r194), (13, .int r186), (12, .int r179), (11, .int v11_175), (10, .int v10_162), (9, .int v9_145), (1, .ref (A 0)), (3, .ref (zA (Zl V A q) 0)), (4, .ref (A 1)), (5, .int v5_120), (6, .int v6_107), (7, .int v7_114), (8, .int v8_120)]) dL_law_197 (hN _ (Nat.le_of_ble_eq_true rfl)) rfl ?_
      refine x_aload_n C 199 7 dL_law_199 rfl ?_
      refine x_bipush C 200 dL_law_200 kb_12 ?_
      refine Y_bnd2 (fun r202 s_202 h202 => ?_)
      refine x_callLV C 202 [.int (12 : Int32)] [] rfl tw_1117 mv_X8_count rfl (Nat.le_of_ble_eq_true rfl) (Nat.le_of_ble_eq_true rfl) (Nat.le_of_ble_eq_true rfl) dL_law_202 (c_X8_count V _ _ _ h202) ?_
      refine x_istore C 205 (L' := [(15, .int r202), (14, .int r194), (13, .int r186), (12, .int r179), (11, .int v11_175), (10, .int v10_162), (9, .int v9_145), (1, .ref (A 0)), (3, .ref (zA (Zl V A q) 0)), (4, .ref (A 1)), (5, .int v5_120), (6, .int v6_107), (7, .int v7_114), (8, .int v8_120)]) dL_law_205 (hN _ (Nat.le_of_ble_eq_true rfl)) rfl ?_
      refine x_aload_n C 207 8 dL_law_207 rfl ?_
      refine x_bipush C 208 dL_law_208 kb_16 ?_
      refine Y_bnd2 (fun r210 s_210 h210 => ?_)
      refine x_callLV C 210 [.int (16 : Int32)] [] rfl tw_1117 mv_X8_count rfl (Nat.le_of_ble_eq_true rfl) (Nat.le_of_ble_eq_true rfl) (Nat.le_of_ble_eq_true rfl) dL_law_210 (c_X8_count V _ _ _ h210) ?_
      refine x_istore C 213 (L' := [(16, .int r210), (15, .int r202), (14, .int r194), (13, .int r186), (12, .int r179), (11, .int v11_175), (10, .int v10_162), (9, .int v9_145), (1, .ref (A 0)), (3, .ref (zA (Zl V A q) 0)), (4, .ref (A 1)), (5, .int v5_120), (6, .int v6_107), (7, .int v7_114), (8, .int v8_120)]) dL_law_213 (hN _ (Nat.le_of_ble_eq_true rfl)) rfl ?_
      refine x_aload_n C 215 9 dL_law_215 rfl ?_
      refine x_bipush C 216 dL_law_216 kb_9 ?_
      refine Y_bnd2 (fun r218 s_218 h218 => ?_)
      refine x_callLV C 218 [.int (9 : Int32)] [] rfl tw_1117 mv_X8_count rfl (Nat.le_of_ble_eq_true rfl) (Nat.le_of_ble_eq_true rfl) (Nat.le_of_ble_eq_true rfl) dL_law_218 (c_X8_count V _ _ _ h218) ?_
      refine x_istore C 221 (L' := [(17, .int r218), (16, .int r210), (15, .int r202), (14, .int r194), (13, .int r186), (12, .int r179), (11, .int v11_175), (10, .int v10_162), (9, .int v9_145), (1, .ref (A 0)), (3, .ref (zA (Zl V A q) 0)), (4, .ref (A 1)), (5, .int v5_120), (6, .int v6_107), (7, .int v7_114), (8, .int v8_120)]) dL_law_221 (hN _ (Nat.le_of_ble_eq_true rfl)) rfl ?_
      refine x_aload_n C 223 10 dL_law_223 rfl ?_
      refine x_iload C 224 8 dL_law_224 rfl ?_
      refine x_iconst C 226 dL_law_226 ki_0 ?_
      refine Y_bnd2 (fun r227 s_227 h227 => ?_)
      refine x_callLV C 227 [.int v9_145, .int (0 : Int32)] [] rfl tw_917 mv_X8_copy rfl (Nat.le_of_ble_eq_true rfl) (Nat.le_of_ble_eq_true rfl) (Nat.le_of_ble_eq_true rfl) dL_law_227 (c_X8_copy V _ _ _ _ h227) ?_
      refine x_istore C 230 (L' := [(18, .int r227), (17, .int r218), (16, .int r210), (15, .int r202), (14, .int r194), (13, .int r186), (12, .int r179), (11, .int v11_175), (10, .int v10_162), (9, .int v9_145), (1, .ref (A 0)), (3, .ref (zA (Zl V A q) 0)), (4, .ref (A 1)), (5, .int v5_120), (6, .int v6_107), (7, .int v7_114), (8, .int v8_120)]) dL_law_230 (hN _ (Nat.le_of_ble_eq_true rfl)) rfl ?_
      refine x_aload_n C 232 11 dL_law_232 rfl ?_
      refine x_iload C 233 8 dL_law_233 rfl ?_
      refine x_iconst C 235 dL_law_235 ki_1 ?_
      refine Y_bnd2 (fun r236 s_236 h236 => ?_)
      refine x_callLV C 236 [.int v10_162, .int (1 : Int32)] [] rfl tw_917 mv_X8_copy rfl (Nat.le_of_ble_eq_true rfl) (Nat.le_of_ble_eq_true rfl) (Nat.le_of_ble_eq_true rfl) dL_law_236 (c_X8_copy V _ _ _ _ h236) ?_
      refine x_istore C 239 (L' := [(19, .int r236), (18, .int r227), (17, .int r218), (16, .int r210), (15, .int r202), (14, .int r194), (13, .int r186), (12, .int r179), (11, .int v11_175), (10, .int v10_162), (9, .int v9_145), (1, .ref (A 0)), (3, .ref (zA (Zl V A q) 0)), (4, .ref (A 1)), (5, .int v5_120), (6, .int v6_107), (7, .int v7_114), (8, .int v8_120)]) dL_law_239 (hN _ (Nat.le_of_ble_eq_true rfl)) rfl ?_
      refine x_aload_n C 241 12 dL_law_241 rfl ?_
      refine x_iconst C 242 dL_law_242 ki_0 ?_
      refine x_iconst C 243 dL_law_243 ki_0 ?_
      refine Y_bnd1 (fun r244 h244 => ?_)
      refine x_callLV C 244 [.int (0 : Int32), .int (0 : Int32)] [] rfl tw_950 mv_X8_session rfl (Nat.le_of_ble_eq_true rfl) (Nat.le_of_ble_eq_true rfl) (Nat.le_of_ble_eq_true rfl) dL_law_244 (c_X8_session V _ _ _ _ h244) ?_
      refine x_istore C 247 (L' := [(20, .int r244), (19, .int r236), (18, .int r227), (17, .int r218), (16, .int r210), (15, .int r202), (14, .int r194), (13, .int r186), (12, .int r179), (11, .int v11_175), (10, .int v10_162), (9, .int v9_145), (1, .ref (A 0)), (3, .ref (zA (Zl V A q) 0)), (4, .ref (A 1)), (5, .int v5_120), (6, .int v6_107), (7, .int v7_114), (8, .int v8_120)]) dL_law_247 (hN _ (Nat.le_of_ble_eq_true rfl)) rfl ?_
      refine x_aload_n C 249 13 dL_law_249 rfl ?_
      refine x_iconst C 250 dL_law_250 ki_5 ?_
      refine Y_bnd2 (fun r251 s_251 h251 => ?_)
      refine x_callLV C 251 [.int (5 : Int32)] [] rfl tw_1117 mv_X8_count rfl (Nat.le_of_ble_eq_true rfl) (Nat.le_of_ble_eq_true rfl) (Nat.le_of_ble_eq_true rfl) dL_law_251 (c_X8_count V _ _ _ h251) ?_
      refine x_istore C 254 (L' := [(21, .int r251), (20, .int r244), (19, .int r236), (18, .int r227), (17, .int r218), (16, .int r210), (15, .int r202), (14, .int r194), (13, .int r186), (12, .int r179), (11, .int v11_175), (10, .int v10_162), (9, .int v9_145), (1, .ref (A 0)), (3, .ref (zA (Zl V A q) 0)), (4, .ref (A 1)), (5, .int v5_120), (6, .int v6_107), (7, .int v7_114), (8, .int v8_120)]) dL_law_254 (hN _ (Nat.le_of_ble_eq_true rfl)) rfl ?_
      refine x_aload_n C 256 14 dL_law_256 rfl ?_
      refine x_bipush C 257 dL_law_257 kb_6 ?_
      refine Y_bnd2 (fun r259 s_259 h259 => ?_)
      refine x_callLV C 259 [.int (6 : Int32)] [] rfl tw_1117 mv_X8_count rfl (Nat.le_of_ble_eq_true rfl) (Nat.le_of_ble_eq_true rfl) (Nat.le_of_ble_eq_true rfl) dL_law_259 (c_X8_count V _ _ _ h259) ?_
      refine x_istore C 262 (L' := [(22, .int r259), (21, .int r251), (20, .int r244), (19, .int r236), (18, .int r227), (17, .int r218), (16, .int r210), (15, .int r202), (14, .int r194), (13, .int r186), (12, .int r179), (11, .int v11_175), (10, .int v10_162), (9, .int v9_145), (1, .ref (A 0)), (3, .ref (zA (Zl V A q) 0)), (4, .ref (A 1)), (5, .int v5_120), (6, .int v6_107), (7, .int v7_114), (8, .int v8_120)]) dL_law_262 (hN _ (Nat.le_of_ble_eq_true rfl)) rfl ?_
      refine x_aload_n C 264 14 dL_law_264 rfl ?_
      refine x_iload C 265 20 dL_law_265 rfl ?_
      refine x_script C 267 dL_law_267 (fun _ => ?_)
      refine x_bipush C 268 dL_law_268 kb_7 ?_
      refine x_ishr C 270 dL_law_270 ?_
      refine x_bipush C 271 dL_law_271 kb_7 ?_
      refine x_iand C 273 dL_law_273 ?_
      have hJ1410 : ∀ (σ_1410 : Wd) (v5_1410 : Int32) (v8_1410 : Int32) (v9_1410 : Int32) (v10_1410 : Int32) (v12_1410 : Int32) (v13_1410 : Int32) (v14_1410 : Int32) (v15_1410 : Int32) (v16_1410 : Int32) (v17_1410 : Int32) (v18_1410 : Int32) (v19_1410 : Int32) (v20_1410 : Int32) (v21_1410 : Int32) (v23_1410 : Int32), Y K (Zl V A q) (M_L_law_J1410 q σ_1410 v5_1410 v6_107 v7_114 v8_1410 v9_1410 v10_1410 v12_1410 v13_1410 v14_1410 v15_1410 v16_1410 v17_1410 v18_1410 v19_1410 v20_1410 v21_1410 v23_1410) E120 σ_1410 1410 [(1, .ref (A 0)), (3, .ref (zA (Zl V A q) 0)), (4, .ref (A 1)), (5, .int v5_1410), (6, .int v6_107), (7, .int v7_114), (8, .int v8_1410), (9, .int v9_1410), (10, .int v10_1410), (12, .int v12_1410), (13, .int v13_1410), (14, .int v14_1410), (15, .int v15_1410), (16, .int v16_1410), (17, .int v17_1410), (18, .int v18_1410), (19, .int v19_1410), (20, .int v20_1410), (21, .int v21_1410), (23, .int v23_1410)] [] := c_LJ1410 C hNW hN R hb120
      have hJ316 : ∀ (σ_316 : Wd) (v8_316 : Int32) (v9_316 : Int32) (v10_316 : Int32) (v11_316 : Int32) (v12_316 : Int32) (v13_316 : Int32) (v14_316 : Int32) (v15_316 : Int32) (v16_316 : Int32) (v17_316 : Int32) (v18_316 : Int32) (v19_316 : Int32) (v20_316 : Int32) (v21_316 : Int32), Y K (Zl V A q) (M_L_law_J316 q σ_316 v6_107 v7_114 v8_316 v9_316 v10_316 v11_316 v12_316 v13_316 v14_316 v15_316 v16_316 v17_316 v18_316 v19_316 v20_316 v21_316) E120 σ_316 316 [(1, .ref (A 0)), (3, .ref (zA (Zl V A q) 0)), (4, .ref (A 1)), (6, .int v6_107), (7, .int v7_114), (8, .int v8_316), (9, .int v9_316), (10, .int v10_316), (11, .int v11_316), (12, .int v12_316), (13, .int v13_316), (14, .int v14_316), (15, .int v15_316), (16, .int v16_316), (17, .int v17_316), (18, .int v18_316), (19, .int v19_316), (20, .int v20_316), (21, .int v21_316)] [] := c_LJ316 C hNW hN R hJ1410
      refine Y_ite (fun c274 => ?_) (fun c274_0 => ?_)
      · refine x_tswIn C 274 316 (0 : Int32) c274 dL_law_274 (by decide) (by decide) rfl (by decide) ?_
        refine Y_sub [14, 15, 16, 18, 19, 20, 13, 12, 11, 10, 9, 8, 7, 6, 5, 4, 3, 2, 1] rfl ?_
        exact hJ316 _ _ _ _ _ _ _ _ _ _ _ _ _ _ _
      refine Y_ite (fun c274 => ?_) (fun c274_1 => ?_)
      · refine x_tswIn C 274 316 (1 : Int32) c274 dL_law_274 (by decide) (by decide) rfl (by decide) ?_
        refine Y_sub [14, 15, 16, 18, 19, 20, 13, 12, 11, 10, 9, 8, 7, 6, 5, 4, 3, 2, 1] rfl ?_
        exact hJ316 _ _ _ _ _ _ _ _ _ _ _ _ _ _ _
      refine Y_ite (fun c274 => ?_) (fun c274_2 => ?_)
      · refine x_tswIn C 274 316 (2 : Int32) c274 dL_law_274 (by decide) (by decide) rfl (by decide) ?_
        refine Y_sub [14, 15, 16, 18, 19, 20, 13, 12, 11, 10, 9, 8, 7, 6, 5, 4, 3, 2, 1] rfl ?_
        exact hJ316 _ _ _ _ _ _ _ _ _ _ _ _ _ _ _
      refine Y_ite (fun c274 => ?_) (fun c274_3 => ?_)
      · refine x_tswIn C 274 316 (3 : Int32) c274 dL_law_274 (by decide) (by decide) rfl (by decide) ?_
        refine Y_sub [14, 15, 16, 18, 19, 20, 13, 12, 11, 10, 9, 8, 7, 6, 5, 4, 3, 2, 1] rfl ?_
        exact hJ316 _ _ _ _ _ _ _ _ _ _ _ _ _ _ _
      refine Y_ite (fun c274 => ?_) (fun c274_4 => ?_)
      · refine x_tswIn C 274 742 (4 : Int32) c274 dL_law_274 (by decide) (by decide) rfl (by decide) ?_
        refine x_aload_n C 742 14 dL_law_742 rfl ?_
        refine x_iload C 743 20 dL_law_743 rfl ?_
        refine x_script C 745 dL_law_745 (fun _ => ?_)
        refine x_bipush C 746 dL_law_746 kb_10 ?_
        refine x_ishr C 748 dL_law_748 ?_
        refine x_sipush C 749 dL_law_749 ks_255 ?_
        refine x_iand C 752 dL_law_752 ?_
        refine x_iload C 753 19 dL_law_753 rfl ?_
        refine x_iconst C 755 dL_law_755 ki_1 ?_
        refine x_iadd C 756 dL_law_756 ?_
        refine Y_chk (fun q757 => ?_)
        refine x_irem C 757 dL_law_757 q757 ?_
        refine x_istoret C 758 (fun v24_758 => [(24, .int v24_758), (22, .int r259), (21, .int r251), (20, .int r244), (19, .int r236), (18, .int r227), (17, .int r218), (16, .int r210), (15, .int r202), (14, .int r194), (13, .int r186), (12, .int r179), (11, .int v11_175), (10, .int v10_162), (9, .int v9_145), (1, .ref (A 0)), (3, .ref (zA (Zl V A q) 0)), (4, .ref (A 1)), (5, .int v5_120), (6, .int v6_107), (7, .int v7_114), (8, .int v8_120)]) dL_law_758 (hN _ (Nat.le_of_ble_eq_true rfl)) (fun _ => rfl) (fun v24_758 => ?_)
        refine x_aload_n C 760 16 dL_law_760 rfl ?_
        refine x_iload C 761 12 dL_law_761 rfl ?_
        refine x_iconst C 763 dL_law_763 ki_0 ?_
        refine Y_bnd1 (fun r764 h764 => ?_)
        refine x_callLV C 764 [.int v11_175, .int (0 : Int32)] [] rfl tw_1034 mv_X8_may rfl (Nat.le_of_ble_eq_true rfl) (Nat.le_of_ble_eq_true rfl) (Nat.le_of_ble_eq_true rfl) dL_law_764 (c_X8_may V _ _ _ _ h764) ?_
        refine x_istore C 767 (L' := [(25, .int r764), (24, .int v24_758), (22, .int r259), (21, .int r251), (20, .int r244), (19, .int r236), (18, .int r227), (17, .int r218), (16, .int r210), (15, .int r202), (14, .int r194), (13, .int r186), (12, .int r179), (11, .int v11_175), (10, .int v10_162), (9, .int v9_145), (1, .ref (A 0)), (3, .ref (zA (Zl V A q) 0)), (4, .ref (A 1)), (5, .int v5_120), (6, .int v6_107), (7, .int v7_114), (8, .int v8_120)]) dL_law_767 (hN _ (Nat.le_of_ble_eq_true rfl)) rfl ?_
        refine x_iload C 769 13 dL_law_769 rfl ?_
        have hJ799 : ∀ (σ_799 : Wd) (v8_799 : Int32) (v9_799 : Int32) (v10_799 : Int32) (v11_799 : Int32) (v12_799 : Int32) (v13_799 : Int32) (v14_799 : Int32) (v15_799 : Int32) (v16_799 : Int32) (v17_799 : Int32) (v18_799 : Int32) (v19_799 : Int32) (v20_799 : Int32) (v21_799 : Int32) (v24_799 : Int32) (v25_799 : Int32) (t0_799 : Int32), Y K (Zl V A q) (M_L_law_J799 q σ_799 v6_107 v7_114 v8_799 v9_799 v10_799 v11_799 v12_799 v13_799 v14_799 v15_799 v16_799 v17_799 v18_799 v19_799 v20_799 v21_799 v24_799 v25_799 t0_799) E120 σ_799 799 [(1, .ref (A 0)), (3, .ref (zA (Zl V A q) 0)), (4, .ref (A 1)), (6, .int v6_107), (7, .int v7_114), (8, .int v8_799), (9, .int v9_799), (10, .int v10_799), (11, .int v11_799), (12, .int v12_799), (13, .int v13_799), (14, .int v14_799), (15, .int v15_799), (16, .int v16_799), (17, .int v17_799), (18, .int v18_799), (19, .int v19_799), (20, .int v20_799), (21, .int v21_799), (24, .int v24_799), (25, .int v25_799)] [.int t0_799] := c_LJ799 C hNW hN R hJ1410
        have hJ798 : ∀ (σ_798 : Wd) (v8_798 : Int32) (v9_798 : Int32) (v10_798 : Int32) (v11_798 : Int32) (v12_798 : Int32) (v13_798 : Int32) (v14_798 : Int32) (v15_798 : Int32) (v16_798 : Int32) (v17_798 : Int32) (v18_798 : Int32) (v19_798 : Int32) (v20_798 : Int32) (v21_798 : Int32) (v24_798 : Int32) (v25_798 : Int32), Y K (Zl V A q) (M_L_law_J798 q σ_798 v6_107 v7_114 v8_798 v9_798 v10_798 v11_798 v12_798 v13_798 v14_798 v15_798 v16_798 v17_798 v18_798 v19_798 v20_798 v21_798 v24_798 v25_798) E120 σ_798 798 [(1, .ref (A 0)), (3, .ref (zA (Zl V A q) 0)), (4, .ref (A 1)), (6, .int v6_107), (7, .int v7_114), (8, .int v8_798), (9, .int v9_798), (10, .int v10_798), (11, .int v11_798), (12, .int v12_798), (13, .int v13_798), (14, .int v14_798), (15, .int v15_798), (16, .int v16_798), (17, .int v17_798), (18, .int v18_798), (19, .int v19_798), (20, .int v20_798), (21, .int v21_798), (24, .int v24_798), (25, .int v25_798)] [] := c_LJ798 C hNW hN R hJ799
        refine x_if_lt C 771 798 dL_law_771 (by decide) (fun _ => ?_) (fun _ => ?_)
        · refine Y_sub [16, 17, 18, 20, 21, 22, 15, 14, 13, 12, 11, 10, 9, 8, 7, 6, 5, 4, 3, 1, 0] rfl ?_
          exact hJ798 _ _ _ _ _ _ _ _ _ _ _ _ _ _ _ _ _
        · refine x_iload C 774 13 dL_law_774 rfl ?_
          refine x_iconst C 776 dL_law_776 ki_4 ?_
          refine x_icmp_ge C 777 798 dL_law_777 (by decide) (fun _ => ?_) (fun _ => ?_)
          · refine Y_sub [16, 17, 18, 20, 21, 22, 15, 14, 13, 12, 11, 10, 9, 8, 7, 6, 5, 4, 3, 1, 0] rfl ?_
            exact hJ798 _ _ _ _ _ _ _ _ _ _ _ _ _ _ _ _ _
          · refine x_iload C 780 15 dL_law_780 rfl ?_
            refine x_iload C 782 20 dL_law_782 rfl ?_
            refine x_icmp_ge C 784 798 dL_law_784 (by decide) (fun _ => ?_) (fun _ => ?_)
            · refine Y_sub [16, 17, 18, 20, 21, 22, 15, 14, 13, 12, 11, 10, 9, 8, 7, 6, 5, 4, 3, 1, 0] rfl ?_
              exact hJ798 _ _ _ _ _ _ _ _ _ _ _ _ _ _ _ _ _
            · refine x_iload C 787 1 dL_law_787 rfl ?_
              refine x_iload C 789 21 dL_law_789 rfl ?_
              refine x_icmp_ge C 791 798 dL_law_791 (by decide) (fun _ => ?_) (fun _ => ?_)
              · refine Y_sub [16, 17, 18, 20, 21, 22, 15, 14, 13, 12, 11, 10, 9, 8, 7, 6, 5, 4, 3, 1, 0] rfl ?_
                exact hJ798 _ _ _ _ _ _ _ _ _ _ _ _ _ _ _ _ _
              · refine x_iconst C 794 dL_law_794 ki_1 ?_
                refine x_goto C 795 799 dL_law_795 (by decide) ?_
                refine Y_sub [16, 17, 18, 20, 21, 22, 15, 14, 13, 12, 11, 10, 9, 8, 7, 6, 5, 4, 3, 1, 0] rfl ?_
                exact hJ799 _ _ _ _ _ _ _ _ _ _ _ _ _ _ _ _ _ _
      refine Y_ite (fun c274 => ?_) (fun c274_5 => ?_)
      · refine x_tswIn C 274 960 (5 : Int32) c274 dL_law_274 (by decide) (by decide) rfl (by decide) ?_
        refine x_aload_n C 960 15 dL_law_960 rfl ?_
        refine x_iload C 961 13 dL_law_961 rfl ?_
        refine x_iload C 963 12 dL_law_963 rfl ?_
        refine Y_bnd2 (fun r965 s_965 h965 => ?_)
        refine x_callLV C 965 [.int v9_145, .int v10_162] [] rfl tw_972 mv_X8_would rfl (Nat.le_of_ble_eq_true rfl) (Nat.le_of_ble_eq_true rfl) (Nat.le_of_ble_eq_true rfl) dL_law_965 (c_X8_would V _ _ _ _ h965) ?_
        refine x_istore C 968 (L' := [(24, .int r965), (22, .int r259), (21, .int r251), (20, .int r244), (19, .int r236), (18, .int r227), (17, .int r218), (16, .int r210), (15, .int r202), (14, .int r194), (13, .int r186), (12, .int r179), (11, .int v11_175), (10, .int v10_162), (9, .int v9_145), (1, .ref (A 0)), (3, .ref (zA (Zl V A q) 0)), (4, .ref (A 1)), (5, .int v5_120), (6, .int v6_107), (7, .int v7_114), (8, .int v8_120)]) dL_law_968 (hN _ (Nat.le_of_ble_eq_true rfl)) rfl ?_
        refine x_aload_n C 970 16 dL_law_970 rfl ?_
        refine x_iload C 971 14 dL_law_971 rfl ?_
        refine x_iload C 973 13 dL_law_973 rfl ?_
        refine Y_bnd1 (fun r975 h975 => ?_)
        refine x_callLV C 975 [.int v9_145, .int v10_162] [] rfl tw_967 mv_X8_lacks rfl (Nat.le_of_ble_eq_true rfl) (Nat.le_of_ble_eq_true rfl) (Nat.le_of_ble_eq_true rfl) dL_law_975 (c_X8_lacks V _ _ _ _ h975) ?_
        refine x_istore C 978 (L' := [(25, .int r975), (24, .int r965), (22, .int r259), (21, .int r251), (20, .int r244), (19, .int r236), (18, .int r227), (17, .int r218), (16, .int r210), (15, .int r202), (14, .int r194), (13, .int r186), (12, .int r179), (11, .int v11_175), (10, .int v10_162), (9, .int v9_145), (1, .ref (A 0)), (3, .ref (zA (Zl V A q) 0)), (4, .ref (A 1)), (5, .int v5_120), (6, .int v6_107), (7, .int v7_114), (8, .int v8_120)]) dL_law_978 (hN _ (Nat.le_of_ble_eq_true rfl)) rfl ?_
        refine x_aload_n C 980 17 dL_law_980 rfl ?_
        refine x_iload C 981 15 dL_law_981 rfl ?_
        refine x_iload C 983 14 dL_law_983 rfl ?_
        refine Y_bnd2 (fun r985 s_985 h985 => ?_)
        refine x_callLV C 985 [.int v9_145, .int v10_162] [] rfl tw_1008 mv_X8_fork rfl (Nat.le_of_ble_eq_true rfl) (Nat.le_of_ble_eq_true rfl) (Nat.le_of_ble_eq_true rfl) dL_law_985 (c_X8_fork V _ _ _ _ h985) ?_
        refine x_istore C 988 (L' := [(26, .int r985), (25, .int r975), (24, .int r965), (22, .int r259), (21, .int r251), (20, .int r244), (19, .int r236), (18, .int r227), (17, .int r218), (16, .int r210), (15, .int r202), (14, .int r194), (13, .int r186), (12, .int r179), (11, .int v11_175), (10, .int v10_162), (9, .int v9_145), (1, .ref (A 0)), (3, .ref (zA (Zl V A q) 0)), (4, .ref (A 1)), (5, .int v5_120), (6, .int v6_107), (7, .int v7_114), (8, .int v8_120)]) dL_law_988 (hN _ (Nat.le_of_ble_eq_true rfl)) rfl ?_
        refine x_aload_n C 990 18 dL_law_990 rfl ?_
        refine x_iload C 991 16 dL_law_991 rfl ?_
        refine x_iload C 993 15 dL_law_993 rfl ?_
        refine Y_bnd2 (fun r995 s_995 h995 => ?_)
        refine x_callLV C 995 [.int v9_145, .int v10_162] [] rfl tw_804 mv_X8_meet rfl (Nat.le_of_ble_eq_true rfl) (Nat.le_of_ble_eq_true rfl) (Nat.le_of_ble_eq_true rfl) dL_law_995 (c_X8_meet V _ _ _ _ h995) ?_
        refine x_istore C 998 (L' := [(27, .int r995), (26, .int r985), (25, .int r975), (24, .int r965), (22, .int r259), (21, .int r251), (20, .int r244), (19, .int r236), (18, .int r227), (17, .int r218), (16, .int r210), (15, .int r202), (14, .int r194), (13, .int r186), (12, .int r179), (11, .int v11_175), (10, .int v10_162), (9, .int v9_145), (1, .ref (A 0)), (3, .ref (zA (Zl V A q) 0)), (4, .ref (A 1)), (5, .int v5_120), (6, .int v6_107), (7, .int v7_114), (8, .int v8_120)]) dL_law_998 (hN _ (Nat.le_of_ble_eq_true rfl)) rfl ?_
        refine x_iload C 1000 17 dL_law_1000 rfl ?_
        refine x_iload C 1002 22 dL_law_1002 rfl ?_
        have hJ1026 : ∀ (σ_1026 : Wd) (v8_1026 : Int32) (v9_1026 : Int32) (v10_1026 : Int32) (v12_1026 : Int32) (v13_1026 : Int32) (v14_1026 : Int32) (v15_1026 : Int32) (v16_1026 : Int32) (v17_1026 : Int32) (v18_1026 : Int32) (v19_1026 : Int32) (v20_1026 : Int32) (v21_1026 : Int32) (v24_1026 : Int32) (v25_1026 : Int32) (v26_1026 : Int32) (v27_1026 : Int32) (t0_1026 : Int32), Y K (Zl V A q) (M_L_law_J1026 q σ_1026 v6_107 v7_114 v8_1026 v9_1026 v10_1026 v12_1026 v13_1026 v14_1026 v15_1026 v16_1026 v17_1026 v18_1026 v19_1026 v20_1026 v21_1026 v24_1026 v25_1026 v26_1026 v27_1026 t0_1026) E120 σ_1026 1026 [(1, .ref (A 0)), (3, .ref (zA (Zl V A q) 0)), (4, .ref (A 1)), (6, .int v6_107), (7, .int v7_114), (8, .int v8_1026), (9, .int v9_1026), (10, .int v10_1026), (12, .int v12_1026), (13, .int v13_1026), (14, .int v14_1026), (15, .int v15_1026), (16, .int v16_1026), (17, .int v17_1026), (18, .int v18_1026), (19, .int v19_1026), (20, .int v20_1026), (21, .int v21_1026), (24, .int v24_1026), (25, .int v25_1026), (26, .int v26_1026), (27, .int v27_1026)] [.int t0_1026] := c_LJ1026 C hNW hN R hJ1410
        have hJ1025 : ∀ (σ_1025 : Wd) (v8_1025 : Int32) (v9_1025 : Int32) (v10_1025 : Int32) (v12_1025 : Int32) (v13_1025 : Int32) (v14_1025 : Int32) (v15_1025 : Int32) (v16_1025 : Int32) (v17_1025 : Int32) (v18_1025 : Int32) (v19_1025 : Int32) (v20_1025 : Int32) (v21_1025 : Int32) (v24_1025 : Int32) (v25_1025 : Int32) (v26_1025 : Int32) (v27_1025 : Int32), Y K (Zl V A q) (M_L_law_J1025 q σ_1025 v6_107 v7_114 v8_1025 v9_1025 v10_1025 v12_1025 v13_1025 v14_1025 v15_1025 v16_1025 v17_1025 v18_1025 v19_1025 v20_1025 v21_1025 v24_1025 v25_1025 v26_1025 v27_1025) E120 σ_1025 1025 [(1, .ref (A 0)), (3, .ref (zA (Zl V A q) 0)), (4, .ref (A 1)), (6, .int v6_107), (7, .int v7_114), (8, .int v8_1025), (9, .int v9_1025), (10, .int v10_1025), (12, .int v12_1025), (13, .int v13_1025), (14, .int v14_1025), (15, .int v15_1025), (16, .int v16_1025), (17, .int v17_1025), (18, .int v18_1025), (19, .int v19_1025), (20, .int v20_1025), (21, .int v21_1025), (24, .int v24_1025), (25, .int v25_1025), (26, .int v26_1025), (27, .int v27_1025)] [] := c_LJ1025 C hNW hN R hJ1026
        refine x_icmp_ge C 1004 1025 dL_law_1004 (by decide) (fun _ => ?_) (fun _ => ?_)
        · refine Y_sub [18, 19, 20, 22, 23, 24, 17, 16, 14, 13, 12, 11, 10, 9, 8, 7, 6, 5, 3, 2, 1, 0] rfl ?_
          exact hJ1025 _ _ _ _ _ _ _ _ _ _ _ _ _ _ _ _ _ _
        · refine x_iload C 1007 16 dL_law_1007 rfl ?_
          refine x_iload C 1009 22 dL_law_1009 rfl ?_
          refine x_icmp_ge C 1011 1025 dL_law_1011 (by decide) (fun _ => ?_) (fun _ => ?_)
          · refine Y_sub [18, 19, 20, 22, 23, 24, 17, 16, 14, 13, 12, 11, 10, 9, 8, 7, 6, 5, 3, 2, 1, 0] rfl ?_
            exact hJ1025 _ _ _ _ _ _ _ _ _ _ _ _ _ _ _ _ _ _
          · refine x_iload C 1014 17 dL_law_1014 rfl ?_
            refine x_iload C 1016 16 dL_law_1016 rfl ?_
            refine x_icmp_eq C 1018 1025 dL_law_1018 (by decide) (fun _ => ?_) (fun _ => ?_)
            · refine Y_sub [18, 19, 20, 22, 23, 24, 17, 16, 14, 13, 12, 11, 10, 9, 8, 7, 6, 5, 3, 2, 1, 0] rfl ?_
              exact hJ1025 _ _ _ _ _ _ _ _ _ _ _ _ _ _ _ _ _ _
            · refine x_iconst C 1021 dL_law_1021 ki_1 ?_
              refine x_goto C 1022 1026 dL_law_1022 (by decide) ?_
              refine Y_sub [18, 19, 20, 22, 23, 24, 17, 16, 14, 13, 12, 11, 10, 9, 8, 7, 6, 5, 3, 2, 1, 0] rfl ?_
              exact hJ1026 _ _ _ _ _ _ _ _ _ _ _ _ _ _ _ _ _ _ _
      refine Y_ite (fun c274 => ?_) (fun c274_6 => ?_)
      · refine x_tswIn C 274 1180 (6 : Int32) c274 dL_law_274 (by decide) (by decide) rfl (by decide) ?_
        refine x_aload_n C 1180 14 dL_law_1180 rfl ?_
        refine x_iload C 1181 20 dL_law_1181 rfl ?_
        refine x_script C 1183 dL_law_1183 (fun _ => ?_)
        refine x_bipush C 1184 dL_law_1184 kb_10 ?_
        refine x_ishr C 1186 dL_law_1186 ?_
        refine x_bipush C 1187 dL_law_1187 kb_15 ?_
        refine x_iand C 1189 dL_law_1189 ?_
        refine x_istoret C 1190 (fun v24_1190 => [(24, .int v24_1190), (22, .int r259), (21, .int r251), (20, .int r244), (19, .int r236), (18, .int r227), (17, .int r218), (16, .int r210), (15, .int r202), (14, .int r194), (13, .int r186), (12, .int r179), (11, .int v11_175), (10, .int v10_162), (9, .int v9_145), (1, .ref (A 0)), (3, .ref (zA (Zl V A q) 0)), (4, .ref (A 1)), (5, .int v5_120), (6, .int v6_107), (7, .int v7_114), (8, .int v8_120)]) dL_law_1190 (hN _ (Nat.le_of_ble_eq_true rfl)) (fun _ => rfl) (fun v24_1190 => ?_)
        refine x_aload_n C 1192 16 dL_law_1192 rfl ?_
        refine x_iconst C 1193 dL_law_1193 ki_0 ?_
        refine x_iload C 1194 0 dL_law_1194 rfl ?_
        refine Y_bnd2 (fun r1196 s_1196 h1196 => ?_)
        refine x_callLV C 1196 [.int (0 : Int32), .int v24_1190] [] rfl tw_796 mv_X8_promise rfl (Nat.le_of_ble_eq_true rfl) (Nat.le_of_ble_eq_true rfl) (Nat.le_of_ble_eq_true rfl) dL_law_1196 (c_X8_promise V _ _ _ _ h1196) ?_
        refine x_istore C 1199 (L' := [(23, .int r1196), (24, .int v24_1190), (22, .int r259), (21, .int r251), (20, .int r244), (19, .int r236), (18, .int r227), (17, .int r218), (16, .int r210), (15, .int r202), (14, .int r194), (13, .int r186), (12, .int r179), (11, .int v11_175), (10, .int v10_162), (9, .int v9_145), (1, .ref (A 0)), (3, .ref (zA (Zl V A q) 0)), (4, .ref (A 1)), (5, .int v5_120), (6, .int v6_107), (7, .int v7_114), (8, .int v8_120)]) dL_law_1199 (hN _ (Nat.le_of_ble_eq_true rfl)) rfl ?_
        refine x_iload C 1201 0 dL_law_1201 rfl ?_
        refine x_iload C 1203 1 dL_law_1203 rfl ?_
        refine x_iload C 1205 4 dL_law_1205 rfl ?_
        have hJ1215 : ∀ (σ_1215 : Wd) (v8_1215 : Int32) (v9_1215 : Int32) (v10_1215 : Int32) (v12_1215 : Int32) (v13_1215 : Int32) (v14_1215 : Int32) (v15_1215 : Int32) (v16_1215 : Int32) (v17_1215 : Int32) (v18_1215 : Int32) (v19_1215 : Int32) (v20_1215 : Int32) (v21_1215 : Int32) (v23_1215 : Int32) (v24_1215 : Int32) (t0_1215 : Int32) (t1_1215 : Int32), Y K (Zl V A q) (M_L_law_J1215 q σ_1215 v6_107 v7_114 v8_1215 v9_1215 v10_1215 v12_1215 v13_1215 v14_1215 v15_1215 v16_1215 v17_1215 v18_1215 v19_1215 v20_1215 v21_1215 v23_1215 v24_1215 t0_1215 t1_1215) E120 σ_1215 1215 [(1, .ref (A 0)), (3, .ref (zA (Zl V A q) 0)), (4, .ref (A 1)), (6, .int v6_107), (7, .int v7_114), (8, .int v8_1215), (9, .int v9_1215), (10, .int v10_1215), (12, .int v12_1215), (13, .int v13_1215), (14, .int v14_1215), (15, .int v15_1215), (16, .int v16_1215), (17, .int v17_1215), (18, .int v18_1215), (19, .int v19_1215), (20, .int v20_1215), (21, .int v21_1215), (23, .int v23_1215), (24, .int v24_1215)] [.int t0_1215, .int t1_1215] := c_LJ1215 C hNW hN R hJ1410
        refine x_icmp_eq C 1207 1214 dL_law_1207 (by decide) (fun _ => ?_) (fun _ => ?_)
        · refine x_iconst C 1214 dL_law_1214 ki_0 ?_
          refine Y_sub [16, 17, 18, 20, 21, 22, 15, 14, 12, 11, 10, 9, 8, 7, 6, 5, 4, 3, 0, 1] rfl ?_
          exact hJ1215 _ _ _ _ _ _ _ _ _ _ _ _ _ _ _ _ _ _
        · refine x_iconst C 1210 dL_law_1210 ki_1 ?_
          refine x_goto C 1211 1215 dL_law_1211 (by decide) ?_
          refine Y_sub [16, 17, 18, 20, 21, 22, 15, 14, 12, 11, 10, 9, 8, 7, 6, 5, 4, 3, 0, 1] rfl ?_
          exact hJ1215 _ _ _ _ _ _ _ _ _ _ _ _ _ _ _ _ _ _
      · refine x_tswOut C 274 1281 [(0 : Int32), (1 : Int32), (2 : Int32), (3 : Int32), (4 : Int32), (5 : Int32), (6 : Int32)] dL_law_274 (by decide) (List.forall_mem_cons.mpr ⟨c274_0, (List.forall_mem_cons.mpr ⟨c274_1, (List.forall_mem_cons.mpr ⟨c274_2, (List.forall_mem_cons.mpr ⟨c274_3, (List.forall_mem_cons.mpr ⟨c274_4, (List.forall_mem_cons.mpr ⟨c274_5, (List.forall_mem_cons.mpr ⟨c274_6, (List.forall_mem_nil _)⟩)⟩)⟩)⟩)⟩)⟩)⟩) (by decide) ?_
        refine x_aload_n C 1281 14 dL_law_1281 rfl ?_
        refine x_iload C 1282 20 dL_law_1282 rfl ?_
        refine x_script C 1284 dL_law_1284 (fun _ => ?_)
        refine x_bipush C 1285 dL_law_1285 kb_10 ?_
        refine x_ishr C 1287 dL_law_1287 ?_
        refine x_iconst C 1288 dL_law_1288 ki_1 ?_
        refine x_iand C 1289 dL_law_1289 ?_
        refine x_istoret C 1290 (fun v24_1290 => [(24, .int v24_1290), (22, .int r259), (21, .int r251), (20, .int r244), (19, .int r236), (18, .int r227), (17, .int r218), (16, .int r210), (15, .int r202), (14, .int r194), (13, .int r186), (12, .int r179), (11, .int v11_175), (10, .int v10_162), (9, .int v9_145), (1, .ref (A 0)), (3, .ref (zA (Zl V A q) 0)), (4, .ref (A 1)), (5, .int v5_120), (6, .int v6_107), (7, .int v7_114), (8, .int v8_120)]) dL_law_1290 (hN _ (Nat.le_of_ble_eq_true rfl)) (fun _ => rfl) (fun v24_1290 => ?_)
        refine x_aload_n C 1292 15 dL_law_1292 rfl ?_
        refine x_iload C 1293 21 dL_law_1293 rfl ?_
        refine x_script C 1295 dL_law_1295 (fun _ => ?_)
        refine x_bipush C 1296 dL_law_1296 kb_11 ?_
        refine x_ishr C 1298 dL_law_1298 ?_
        refine x_iconst C 1299 dL_law_1299 ki_1 ?_
        refine x_iand C 1300 dL_law_1300 ?_
        refine x_if_ne C 1301 1366 dL_law_1301 (by decide) (fun _ => ?_) (fun _ => ?_)
        · refine x_iload C 1366 0 dL_law_1366 rfl ?_
          have hJ1376 : ∀ (σ_1376 : Wd) (v8_1376 : Int32) (v9_1376 : Int32) (v10_1376 : Int32) (v12_1376 : Int32) (v13_1376 : Int32) (v14_1376 : Int32) (v15_1376 : Int32) (v16_1376 : Int32) (v17_1376 : Int32) (v18_1376 : Int32) (v19_1376 : Int32) (v20_1376 : Int32) (v21_1376 : Int32) (v22_1376 : Int32) (v24_1376 : Int32) (t0_1376 : Int32), Y K (Zl V A q) (M_L_law_J1376 q σ_1376 v6_107 v7_114 v8_1376 v9_1376 v10_1376 v12_1376 v13_1376 v14_1376 v15_1376 v16_1376 v17_1376 v18_1376 v19_1376 v20_1376 v21_1376 v22_1376 v24_1376 t0_1376) E120 σ_1376 1376 [(1, .ref (A 0)), (3, .ref (zA (Zl V A q) 0)), (4, .ref (A 1)), (6, .int v6_107), (7, .int v7_114), (8, .int v8_1376), (9, .int v9_1376), (10, .int v10_1376), (12, .int v12_1376), (13, .int v13_1376), (14, .int v14_1376), (15, .int v15_1376), (16, .int v16_1376), (17, .int v17_1376), (18, .int v18_1376), (19, .int v19_1376), (20, .int v20_1376), (21, .int v21_1376), (22, .int v22_1376), (24, .int v24_1376)] [.int t0_1376] := c_LJ1376 C hNW hN R hJ1410
          refine x_if_le C 1368 1375 dL_law_1368 (by decide) (fun _ => ?_) (fun _ => ?_)
          · refine x_iconst C 1375 dL_law_1375 ki_0 ?_
            refine Y_sub [15, 16, 17, 19, 20, 21, 14, 13, 11, 10, 9, 8, 7, 6, 5, 4, 3, 2, 1, 0] rfl ?_
            exact hJ1376 _ _ _ _ _ _ _ _ _ _ _ _ _ _ _ _ _
          · refine x_iconst C 1371 dL_law_1371 ki_1 ?_
            refine x_goto C 1372 1376 dL_law_1372 (by decide) ?_
            refine Y_sub [15, 16, 17, 19, 20, 21, 14, 13, 11, 10, 9, 8, 7, 6, 5, 4, 3, 2, 1, 0] rfl ?_
            exact hJ1376 _ _ _ _ _ _ _ _ _ _ _ _ _ _ _ _ _
        · refine x_aload_n C 1304 16 dL_law_1304 rfl ?_
          refine x_iload C 1305 14 dL_law_1305 rfl ?_
          refine Y_bnd2 (fun r1307 s_1307 h1307 => ?_)
          refine x_callLV C 1307 [.int v9_145] [] rfl tw_825 mv_X8_lead rfl (Nat.le_of_ble_eq_true rfl) (Nat.le_of_ble_eq_true rfl) (Nat.le_of_ble_eq_true rfl) dL_law_1307 (c_X8_lead V _ _ _ h1307) ?_
          refine x_istore C 1310 (L' := [(23, .int r1307), (24, .int v24_1290), (22, .int r259), (21, .int r251), (20, .int r244), (19, .int r236), (18, .int r227), (17, .int r218), (16, .int r210), (15, .int r202), (14, .int r194), (13, .int r186), (12, .int r179), (11, .int v11_175), (10, .int v10_162), (9, .int v9_145), (1, .ref (A 0)), (3, .ref (zA (Zl V A q) 0)), (4, .ref (A 1)), (5, .int v5_120), (6, .int v6_107), (7, .int v7_114), (8, .int v8_120)]) dL_law_1310 (hN _ (Nat.le_of_ble_eq_true rfl)) rfl ?_
          refine x_iload C 1312 0 dL_law_1312 rfl ?_
          have hJ1361 : ∀ (σ_1361 : Wd) (v8_1361 : Int32) (v9_1361 : Int32) (v10_1361 : Int32) (v12_1361 : Int32) (v13_1361 : Int32) (v14_1361 : Int32) (v15_1361 : Int32) (v16_1361 : Int32) (v17_1361 : Int32) (v18_1361 : Int32) (v19_1361 : Int32) (v20_1361 : Int32) (v21_1361 : Int32) (v23_1361 : Int32) (t0_1361 : Int32), Y K (Zl V A q) (M_L_law_J1361 q σ_1361 v6_107 v7_114 v8_1361 v9_1361 v10_1361 v12_1361 v13_1361 v14_1361 v15_1361 v16_1361 v17_1361 v18_1361 v19_1361 v20_1361 v21_1361 v23_1361 t0_1361) E120 σ_1361 1361 [(1, .ref (A 0)), (3, .ref (zA (Zl V A q) 0)), (4, .ref (A 1)), (6, .int v6_107), (7, .int v7_114), (8, .int v8_1361), (9, .int v9_1361), (10, .int v10_1361), (12, .int v12_1361), (13, .int v13_1361), (14, .int v14_1361), (15, .int v15_1361), (16, .int v16_1361), (17, .int v17_1361), (18, .int v18_1361), (19, .int v19_1361), (20, .int v20_1361), (21, .int v21_1361), (23, .int v23_1361)] [.int t0_1361] := c_LJ1361 C hNW hN R hJ1410
          have hJ1356 : ∀ (σ_1356 : Wd) (v8_1356 : Int32) (v9_1356 : Int32) (v10_1356 : Int32) (v12_1356 : Int32) (v13_1356 : Int32) (v14_1356 : Int32) (v15_1356 : Int32) (v16_1356 : Int32) (v17_1356 : Int32) (v18_1356 : Int32) (v19_1356 : Int32) (v20_1356 : Int32) (v21_1356 : Int32) (v23_1356 : Int32), Y K (Zl V A q) (M_L_law_J1356 q σ_1356 v6_107 v7_114 v8_1356 v9_1356 v10_1356 v12_1356 v13_1356 v14_1356 v15_1356 v16_1356 v17_1356 v18_1356 v19_1356 v20_1356 v21_1356 v23_1356) E120 σ_1356 1356 [(1, .ref (A 0)), (3, .ref (zA (Zl V A q) 0)), (4, .ref (A 1)), (6, .int v6_107), (7, .int v7_114), (8, .int v8_1356), (9, .int v9_1356), (10, .int v10_1356), (12, .int v12_1356), (13, .int v13_1356), (14, .int v14_1356), (15, .int v15_1356), (16, .int v16_1356), (17, .int v17_1356), (18, .int v18_1356), (19, .int v19_1356), (20, .int v20_1356), (21, .int v21_1356), (23, .int v23_1356)] [] := c_LJ1356 C hNW hN R hJ1361
          refine x_if_eq C 1314 1356 dL_law_1314 (by decide) (fun _ => ?_) (fun _ => ?_)
          · refine Y_sub [16, 17, 18, 20, 21, 22, 15, 14, 12, 11, 10, 9, 8, 7, 6, 5, 4, 3, 0] rfl ?_
            exact hJ1356 _ _ _ _ _ _ _ _ _ _ _ _ _ _ _
          · refine x_iload C 1317 15 dL_law_1317 rfl ?_
            refine x_iload C 1319 3 dL_law_1319 rfl ?_
            have hJ1360 : ∀ (σ_1360 : Wd) (v8_1360 : Int32) (v9_1360 : Int32) (v10_1360 : Int32) (v12_1360 : Int32) (v13_1360 : Int32) (v14_1360 : Int32) (v15_1360 : Int32) (v16_1360 : Int32) (v17_1360 : Int32) (v18_1360 : Int32) (v19_1360 : Int32) (v20_1360 : Int32) (v21_1360 : Int32) (v23_1360 : Int32), Y K (Zl V A q) (M_L_law_J1360 q σ_1360 v6_107 v7_114 v8_1360 v9_1360 v10_1360 v12_1360 v13_1360 v14_1360 v15_1360 v16_1360 v17_1360 v18_1360 v19_1360 v20_1360 v21_1360 v23_1360) E120 σ_1360 1360 [(1, .ref (A 0)), (3, .ref (zA (Zl V A q) 0)), (4, .ref (A 1)), (6, .int v6_107), (7, .int v7_114), (8, .int v8_1360), (9, .int v9_1360), (10, .int v10_1360), (12, .int v12_1360), (13, .int v13_1360), (14, .int v14_1360), (15, .int v15_1360), (16, .int v16_1360), (17, .int v17_1360), (18, .int v18_1360), (19, .int v19_1360), (20, .int v20_1360), (21, .int v21_1360), (23, .int v23_1360)] [] := c_LJ1360 C hNW hN R hJ1361
            refine x_icmp_eq C 1321 1360 dL_law_1321 (by decide) (fun _ => ?_) (fun _ => ?_)
            · refine Y_sub [16, 17, 18, 20, 21, 22, 15, 14, 12, 11, 10, 9, 8, 7, 6, 5, 4, 3, 0] rfl ?_
              exact hJ1360 _ _ _ _ _ _ _ _ _ _ _ _ _ _ _
            · refine x_aload_n C 1324 17 dL_law_1324 rfl ?_
              refine x_iconst C 1325 dL_law_1325 ki_5 ?_
              refine Y_bnd2 (fun r1326 s_1326 h1326 => ?_)
              refine x_callLV C 1326 [.int (5 : Int32)] [] rfl tw_1117 mv_X8_count rfl (Nat.le_of_ble_eq_true rfl) (Nat.le_of_ble_eq_true rfl) (Nat.le_of_ble_eq_true rfl) dL_law_1326 (c_X8_count V _ _ _ h1326) ?_
              refine x_iload C 1329 15 dL_law_1329 rfl ?_
              refine x_icmp_ne C 1331 1360 dL_law_1331 (by decide) (fun _ => ?_) (fun _ => ?_)
              · refine Y_sub [16, 17, 18, 20, 21, 22, 15, 14, 12, 11, 10, 9, 8, 7, 6, 5, 4, 3, 0] rfl ?_
                exact hJ1360 _ _ _ _ _ _ _ _ _ _ _ _ _ _ _
              · refine x_aload_n C 1334 17 dL_law_1334 rfl ?_
                refine x_iload C 1335 15 dL_law_1335 rfl ?_
                refine x_iconst C 1337 dL_law_1337 ki_2 ?_
                refine Y_bnd2 (fun r1338 s_1338 h1338 => ?_)
                refine x_callLV C 1338 [.int v9_145, .int (2 : Int32)] [] rfl tw_917 mv_X8_copy rfl (Nat.le_of_ble_eq_true rfl) (Nat.le_of_ble_eq_true rfl) (Nat.le_of_ble_eq_true rfl) dL_law_1338 (c_X8_copy V _ _ _ _ h1338) ?_
                refine x_iload C 1341 11 dL_law_1341 rfl ?_
                refine x_icmp_ne C 1343 1360 dL_law_1343 (by decide) (fun _ => ?_) (fun _ => ?_)
                · refine Y_sub [16, 17, 18, 20, 21, 22, 15, 14, 12, 11, 10, 9, 8, 7, 6, 5, 4, 3, 0] rfl ?_
                  exact hJ1360 _ _ _ _ _ _ _ _ _ _ _ _ _ _ _
                · refine x_aload_n C 1346 17 dL_law_1346 rfl ?_
                  refine x_iconst C 1347 dL_law_1347 ki_0 ?_
                  refine Y_bnd1 (fun r1348 h1348 => ?_)
                  refine x_callLV C 1348 [.int (0 : Int32)] [] rfl tw_959 mv_X8_shut rfl (Nat.le_of_ble_eq_true rfl) (Nat.le_of_ble_eq_true rfl) (Nat.le_of_ble_eq_true rfl) dL_law_1348 (c_X8_shut V _ _ _ h1348) ?_
                  refine x_iload C 1351 15 dL_law_1351 rfl ?_
                  refine x_icmp_ne C 1353 1360 dL_law_1353 (by decide) (fun _ => ?_) (fun _ => ?_)
                  · refine Y_sub [16, 17, 18, 20, 21, 22, 15, 14, 12, 11, 10, 9, 8, 7, 6, 5, 4, 3, 0] rfl ?_
                    exact hJ1360 _ _ _ _ _ _ _ _ _ _ _ _ _ _ _
                  · refine Y_sub [16, 17, 18, 20, 21, 22, 15, 14, 12, 11, 10, 9, 8, 7, 6, 5, 4, 3, 0] rfl ?_
                    exact hJ1356 _ _ _ _ _ _ _ _ _ _ _ _ _ _ _
set_option maxRecDepth 100000 in
set_option maxHeartbeats 40000000 in
theorem c_L_law (V : Ct_V) (A : Nat → Nat) (q : Lq) (K : Kt) (σ : Wd) (v5 : Int32) {σ2 : Wd} (C : Fx K (Zl V A q) cL_law RL 7 171) (hNW : ∀ w ∈ NWl, va_Nw w K.2.2.2.2.1) (hN : ∀ i, i < 30 → ∀ K2 : Kt, K = K2 → i < K2.2.2.2.2.2.2.2.2.2.2.1) (R : Lr K (Zl V A q)) (h : M_L_law q σ v5 = some (1, σ2)) : Go K (Zl V A q) σ 102 [(1, .ref (A 0)), (3, .ref (zA (Zl V A q) 0)), (4, .ref (A 1)), (5, .int v5)] [] := by
  refine (?_ : Y K _ (M_L_law q σ v5) (fun q : Int32 × Wd => q.1 = 1) σ 102 _ []) _ h rfl
  unfold M_L_law
  refine x_aload C 102 2 dL_law_102 rfl ?_
  refine x_net (v := .int (lZ q 0)) C hNW 104 0 (Nat.le_of_ble_eq_true rfl) rfl rfl (List.mem_of_getElem? (i := 7) rfl) dL_law_104 ?_
  refine x_istoret C 107 (fun v6_107 => [(6, .int v6_107), (1, .ref (A 0)), (3, .ref (zA (Zl V A q) 0)), (4, .ref (A 1)), (5, .int v5)]) dL_law_107 (hN _ (Nat.le_of_ble_eq_true rfl)) (fun _ => rfl) (fun v6_107 => ?_)
  refine x_aload C 109 3 dL_law_109 rfl ?_
  refine x_net (v := .int (lZ q 1)) C hNW 111 1 (Nat.le_of_ble_eq_true rfl) rfl rfl (List.mem_of_getElem? (i := 8) rfl) dL_law_111 ?_
  refine x_istoret C 114 (fun v7_114 => [(7, .int v7_114), (6, .int v6_107), (1, .ref (A 0)), (3, .ref (zA (Zl V A q) 0)), (4, .ref (A 1)), (5, .int v5)]) dL_law_114 (hN _ (Nat.le_of_ble_eq_true rfl)) (fun _ => rfl) (fun v7_114 => ?_)
  refine x_bipush C 116 dL_law_116 kb_10 ?_
  refine x_istore C 118 (L' := [(8, .int (10 : Int32)), (7, .int v7_114), (6, .int v6_107), (1, .ref (A 0)), (3, .ref (zA (Zl V A q) 0)), (4, .ref (A 1)), (5, .int v5)]) dL_law_118 (hN _ (Nat.le_of_ble_eq_true rfl)) rfl ?_
  have hJ1933 : ∀ (σ_1933 : Wd) (v5_1933 : Int32) (v6_1933 : Int32) (v7_1933 : Int32), Y K (Zl V A q) (M_L_law_J1933 q σ_1933 v5_1933 v6_1933 v7_1933) (fun q : Int32 × Wd => q.1 = 1) σ_1933 1933 [(1, .ref (A 0)), (3, .ref (zA (Zl V A q) 0)), (4, .ref (A 1)), (5, .int v5_1933), (6, .int v6_1933), (7, .int v7_1933)] [] := c_LJ1933 C hNW hN R 
  refine Y_sub [3, 4, 5, 6, 2, 1, 0] rfl ?_
  refine x_loop 120 (fun s : Int32 × Int32 × Wd => s.2.2) (fun s : Int32 × Int32 × Wd => [(1, .ref (A 0)), (3, .ref (zA (Zl V A q) 0)), (4, .ref (A 1)), (5, .int s.1), (6, .int v6_107), (7, .int v7_114), (8, .int s.2.1)]) (fun E120 hb120 hx120 s => ?_) FU (v5, (10 : Int32), σ)
  obtain ⟨v5_120, v8_120, s_120⟩ := s
  exact c_LL120 C hNW hN R hx120 hJ1933 hb120 v5_120 v8_120 s_120
