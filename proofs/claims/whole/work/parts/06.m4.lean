/-! the model's methods: programs and contracts -/
def M_X9_fillsHangs_L2 (v1 : Int32) (v2 : Int32) (σ : Wd) : Option ((Int32 × Wd) ⊕ (Wd)) :=
  if (gI σ 0 45) ≤ v2 then (some (.inr σ)) else (chk (ib v2 60) (chk (ib v2 60) (lt (uI σ 34 (ix v2) (gI σ 30 (ix v2))) fun s_21 => lt (v2 + (1 : Int32)) fun v2_22 => some (.inl (v2_22, s_21)))))
def M_X9_fillsHangs_J108 (σ : Wd) (v1 : Int32) (v2 : Int32) : Option ((Int32 × Wd) ⊕ (Wd)) :=
  lt (uI σ 0 55 ((gI σ 0 55) + (1 : Int32))) fun s_115 => lt (v2 + (1 : Int32)) fun v2_118 => some (.inl (v2_118, s_115))
def M_X9_fillsHangs_L45 (v1 : Int32) (v2 : Int32) (σ : Wd) : Option ((Int32 × Wd) ⊕ (Wd)) :=
  if (gI σ 0 45) ≤ v2 then (some (.inr σ)) else (if v2 ≠ v1 then (chk (ib v2 60) (bnd2 (M_X9_doneOne σ (gI σ 27 (ix v2)) v2) fun r69 s_69 => if v2 < v1 then (lt (v2 + (1 : Int32)) fun v2_118 => some (.inl (v2_118, s_69))) else (chk (ib v2 60) (if r69 ≠ (gI s_69 34 (ix v2)) then (if (gI s_69 0 55) ≠ 0 then (M_X9_fillsHangs_J108 s_69 v1 v2) else (chk (ib v2 60) (lt (uI s_69 0 56 (gI s_69 27 (ix v2))) fun s_105 => M_X9_fillsHangs_J108 s_105 v1 v2))) else (lt (v2 + (1 : Int32)) fun v2_118 => some (.inl (v2_118, s_69))))))) else (lt (v2 + (1 : Int32)) fun v2_118 => some (.inl (v2_118, σ))))
def M_X9_fillsHangs_L126 (v2 : Int32) (σ : Wd) : Option ((Int32 × Wd) ⊕ (Wd)) :=
  if (gI σ 0 45) ≤ v2 then (some (.inr σ)) else (chk (ib v2 60) (chk (ib v2 60) (lt (uI σ 30 (ix v2) (gI σ 34 (ix v2))) fun s_145 => lt (v2 + (1 : Int32)) fun v2_146 => some (.inl (v2_146, s_145)))))
def M_X9_fillsHangs (σ : Wd) (v1 : Int32) : Option Wd :=
  bnd1 (iter (fun s : Int32 × Wd => M_X9_fillsHangs_L2 v1 s.1 s.2) FU ((0 : Int32), σ)) (un1 fun sx_2 => (bnd1 (M_X9_firstCells sx_2) fun s_29 => lt (uI s_29 0 55 (0 : Int32)) fun s_34 => lt (uI s_34 0 56 (-2 : Int32)) fun s_40 => bnd1 (iter (fun s : Int32 × Wd => M_X9_fillsHangs_L45 v1 s.1 s.2) FU ((0 : Int32), s_40)) (un1 fun sx_45 => (bnd1 (iter (fun s : Int32 × Wd => M_X9_fillsHangs_L126 s.1 s.2) FU ((0 : Int32), sx_45)) (un1 fun sx_126 => (some sx_126))))))
set_option maxRecDepth 100000 in
set_option maxHeartbeats 4000000 in
theorem c_X9_fillsHangs (V : Vt) (l : Launch) (σ : Wd) (v1 : Int32) {σ2 : Wd} (h : M_X9_fillsHangs σ v1 = some σ2) : Ct l (Zm V) yX9_fillsHangs cX9_fillsHangs 4 none 3 78 [.ref (zA (Zm V) 0), .int v1] σ none σ2 := by
  refine Ct_intro (own := RX9) zm_ok (by decide +kernel) rfl (Nat.le_of_ble_eq_true rfl) [(0, .ref (zA (Zm V) 0)), (1, .int v1)] rfl (fun K C R hKl hnL => ?_)
  have hN := nl_of hnL
  subst hKl
  refine Y_end h ?_
  unfold M_X9_fillsHangs
  refine x_iconst C 0 dX9_fillsHangs_0 ki_0 ?_
  refine x_istore_n C 1 (L' := [(2, .int (0 : Int32)), (0, .ref (zA (Zm V) 0)), (1, .int v1)]) dX9_fillsHangs_1 rfl (hN _ (Nat.le_of_ble_eq_true rfl)) rfl ?_
  refine Y_sub [1, 2, 0] rfl ?_
  refine x_loop 2 (fun s : Int32 × Wd => s.2) (fun s : Int32 × Wd => [(0, .ref (zA (Zm V) 0)), (1, .int v1), (2, .int s.1)]) (fun E2 hb2 hx2 s => ?_) FU ((0 : Int32), σ)
  obtain ⟨v2_2, s_2⟩ := s
  show Y K (Zm V) (M_X9_fillsHangs_L2 v1 v2_2 s_2) E2 s_2 2 [(0, .ref (zA (Zm V) 0)), (1, .int v1), (2, .int v2_2)] []
  unfold M_X9_fillsHangs_L2
  refine x_iload_n C 2 2 dX9_fillsHangs_2 rfl ?_
  refine x_aload_n C 3 0 dX9_fillsHangs_3 rfl ?_
  refine fg_logMany C 4 dX9_fillsHangs_4 ?_
  refine x_icmp_ge C 7 28 dX9_fillsHangs_7 (by decide) (fun _ => ?_) (fun _ => ?_)
  · refine x_ex1 hx2 s_2 ?_
    refine x_aload_n C 28 0 dX9_fillsHangs_28 rfl ?_
    refine Y_bnd1 (fun s_29 h29 => ?_)
    refine x_callVv C 29 [] [] rfl tw_1679 mv_X9_firstCells (Nat.le_of_ble_eq_true rfl) (Nat.le_of_ble_eq_true rfl) (Nat.le_of_ble_eq_true rfl) (Nat.le_of_ble_eq_true rfl) (km_0 V _) rfl dX9_fillsHangs_29 (c_X9_firstCells V _ _  h29) ?_
    refine x_aload_n C 32 0 dX9_fillsHangs_32 rfl ?_
    refine x_iconst C 33 dX9_fillsHangs_33 ki_0 ?_
    refine fp_hangsMany C 34 dX9_fillsHangs_34 (fun s_34 => ?_)
    refine x_aload_n C 37 0 dX9_fillsHangs_37 rfl ?_
    refine x_bipush C 38 dX9_fillsHangs_38 kb_m2 ?_
    refine fp_hangsFirst C 40 dX9_fillsHangs_40 (fun s_40 => ?_)
    refine x_iconst C 43 dX9_fillsHangs_43 ki_0 ?_
    refine x_istore_n C 44 (L' := [(2, .int (0 : Int32)), (0, .ref (zA (Zm V) 0)), (1, .int v1)]) dX9_fillsHangs_44 rfl (hN _ (Nat.le_of_ble_eq_true rfl)) rfl ?_
    refine Y_sub [1, 2, 0] rfl ?_
    refine x_loop 45 (fun s : Int32 × Wd => s.2) (fun s : Int32 × Wd => [(0, .ref (zA (Zm V) 0)), (1, .int v1), (2, .int s.1)]) (fun E45 hb45 hx45 s => ?_) FU ((0 : Int32), s_40)
    obtain ⟨v2_45, s_45⟩ := s
    show Y K (Zm V) (M_X9_fillsHangs_L45 v1 v2_45 s_45) E45 s_45 45 [(0, .ref (zA (Zm V) 0)), (1, .int v1), (2, .int v2_45)] []
    unfold M_X9_fillsHangs_L45
    refine x_iload_n C 45 2 dX9_fillsHangs_45 rfl ?_
    refine x_aload_n C 46 0 dX9_fillsHangs_46 rfl ?_
    refine fg_logMany C 47 dX9_fillsHangs_47 ?_
    refine x_icmp_ge C 50 124 dX9_fillsHangs_50 (by decide) (fun _ => ?_) (fun _ => ?_)
    · refine x_ex1 hx45 s_45 ?_
      refine x_iconst C 124 dX9_fillsHangs_124 ki_0 ?_
      refine x_istore_n C 125 (L' := [(2, .int (0 : Int32)), (0, .ref (zA (Zm V) 0)), (1, .int v1)]) dX9_fillsHangs_125 rfl (hN _ (Nat.le_of_ble_eq_true rfl)) rfl ?_
      refine Y_sub [1, 0] rfl ?_
      refine x_loop 126 (fun s : Int32 × Wd => s.2) (fun s : Int32 × Wd => [(0, .ref (zA (Zm V) 0)), (2, .int s.1)]) (fun E126 hb126 hx126 s => ?_) FU ((0 : Int32), s_45)
      obtain ⟨v2_126, s_126⟩ := s
      show Y K (Zm V) (M_X9_fillsHangs_L126 v2_126 s_126) E126 s_126 126 [(0, .ref (zA (Zm V) 0)), (2, .int v2_126)] []
      unfold M_X9_fillsHangs_L126
      refine x_iload_n C 126 1 dX9_fillsHangs_126 rfl ?_
      refine x_aload_n C 127 0 dX9_fillsHangs_127 rfl ?_
      refine fg_logMany C 128 dX9_fillsHangs_128 ?_
      refine x_icmp_ge C 131 152 dX9_fillsHangs_131 (by decide) (fun _ => ?_) (fun _ => ?_)
      · refine x_ex1 hx126 s_126 ?_
        exact x_vret C R 152 dX9_fillsHangs_152
      · refine x_aload_n C 134 0 dX9_fillsHangs_134 rfl ?_
        refine fg_outAt C 135 dX9_fillsHangs_135 ?_
        refine x_iload_n C 138 1 dX9_fillsHangs_138 rfl ?_
        refine x_aload_n C 139 0 dX9_fillsHangs_139 rfl ?_
        refine fg_outFull C 140 dX9_fillsHangs_140 ?_
        refine x_iload_n C 143 1 dX9_fillsHangs_143 rfl ?_
        refine x_iald C 144 (Nat.le_of_ble_eq_true rfl) (km_34 V _) dX9_fillsHangs_144 (fun _ => ?_)
        refine x_iast C 145 (Nat.le_of_ble_eq_true rfl) (km_30 V) dX9_fillsHangs_145 (fun _ s_145 => ?_)
        refine x_iinct C 146 1 (1 : Int32) (fun v2_146 => [(2, .int v2_146), (0, .ref (zA (Zm V) 0))]) dX9_fillsHangs_146 rfl ki_1 (hN _ (Nat.le_of_ble_eq_true rfl)) (fun _ => rfl) (fun v2_146 => ?_)
        refine x_goto C 149 126 dX9_fillsHangs_149 (by decide) ?_
        refine Y_sub [1, 0] rfl ?_
        exact x_back (v2_146, s_145) (hb126 (v2_146, s_145))
    · refine x_iload_n C 53 2 dX9_fillsHangs_53 rfl ?_
      refine x_iload_n C 54 1 dX9_fillsHangs_54 rfl ?_
      refine x_icmp_ne C 55 61 dX9_fillsHangs_55 (by decide) (fun _ => ?_) (fun _ => ?_)
      · refine x_aload_n C 61 0 dX9_fillsHangs_61 rfl ?_
        refine x_aload_n C 62 0 dX9_fillsHangs_62 rfl ?_
        refine fg_logAt C 63 dX9_fillsHangs_63 ?_
        refine x_iload_n C 66 2 dX9_fillsHangs_66 rfl ?_
        refine x_iald C 67 (Nat.le_of_ble_eq_true rfl) (km_27 V _) dX9_fillsHangs_67 (fun _ => ?_)
        refine x_iload_n C 68 2 dX9_fillsHangs_68 rfl ?_
        refine Y_bnd2 (fun r69 s_69 h69 => ?_)
        refine x_callVi C 69 [.int (gI s_45 27 (ix v2_45)), .int v2_45] [] rfl tw_1683 mv_X9_doneOne (Nat.le_of_ble_eq_true rfl) (Nat.le_of_ble_eq_true rfl) (Nat.le_of_ble_eq_true rfl) (Nat.le_of_ble_eq_true rfl) (km_0 V _) rfl dX9_fillsHangs_69 (c_X9_doneOne V _ _ _ _ h69) ?_
        refine x_istore_n C 72 (L' := [(3, .int r69), (0, .ref (zA (Zm V) 0)), (1, .int v1), (2, .int v2_45)]) dX9_fillsHangs_72 rfl (hN _ (Nat.le_of_ble_eq_true rfl)) rfl ?_
        refine x_iload_n C 73 3 dX9_fillsHangs_73 rfl ?_
        refine x_iload_n C 74 2 dX9_fillsHangs_74 rfl ?_
        refine x_icmp_lt C 75 118 dX9_fillsHangs_75 (by decide) (fun _ => ?_) (fun _ => ?_)
        · refine x_iinct C 118 3 (1 : Int32) (fun v2_118 => [(2, .int v2_118), (3, .int r69), (0, .ref (zA (Zm V) 0)), (1, .int v1)]) dX9_fillsHangs_118 rfl ki_1 (hN _ (Nat.le_of_ble_eq_true rfl)) (fun _ => rfl) (fun v2_118 => ?_)
          refine x_goto C 121 45 dX9_fillsHangs_121 (by decide) ?_
          refine Y_sub [2, 3, 0] rfl ?_
          exact x_back (v2_118, s_69) (hb45 (v2_118, s_69))
        · refine x_iload_n C 78 0 dX9_fillsHangs_78 rfl ?_
          refine x_aload_n C 79 1 dX9_fillsHangs_79 rfl ?_
          refine fg_outFull C 80 dX9_fillsHangs_80 ?_
          refine x_iload_n C 83 3 dX9_fillsHangs_83 rfl ?_
          refine x_iald C 84 (Nat.le_of_ble_eq_true rfl) (km_34 V _) dX9_fillsHangs_84 (fun _ => ?_)
          refine x_icmp_ne C 85 91 dX9_fillsHangs_85 (by decide) (fun _ => ?_) (fun _ => ?_)
          · refine x_aload_n C 91 1 dX9_fillsHangs_91 rfl ?_
            refine fg_hangsMany C 92 dX9_fillsHangs_92 ?_
            have hJ108 : ∀ (σ_108 : Wd) (v2_108 : Int32), Y K (Zm V) (M_X9_fillsHangs_J108 σ_108 v1 v2_108) E45 σ_108 108 [(0, .ref (zA (Zm V) 0)), (1, .int v1), (2, .int v2_108)] [] := by
              intro σ_108 v2_108
              unfold M_X9_fillsHangs_J108
              refine x_aload_n C 108 0 dX9_fillsHangs_108 rfl ?_
              refine x_dup C 109 dX9_fillsHangs_109 rfl ?_
              refine fg_hangsMany C 110 dX9_fillsHangs_110 ?_
              refine x_iconst C 113 dX9_fillsHangs_113 ki_1 ?_
              refine x_iadd C 114 dX9_fillsHangs_114 ?_
              refine fp_hangsMany C 115 dX9_fillsHangs_115 (fun s_115 => ?_)
              refine x_iinct C 118 2 (1 : Int32) (fun v2_118 => [(2, .int v2_118), (0, .ref (zA (Zm V) 0)), (1, .int v1)]) dX9_fillsHangs_118 rfl ki_1 (hN _ (Nat.le_of_ble_eq_true rfl)) (fun _ => rfl) (fun v2_118 => ?_)
              refine x_goto C 121 45 dX9_fillsHangs_121 (by decide) ?_
              refine Y_sub [1, 2, 0] rfl ?_
              exact x_back (v2_118, s_115) (hb45 (v2_118, s_115))
            refine x_if_ne C 95 108 dX9_fillsHangs_95 (by decide) (fun _ => ?_) (fun _ => ?_)
            · refine Y_sub [1, 2, 3] rfl ?_
              exact hJ108 _ _
            · refine x_aload_n C 98 1 dX9_fillsHangs_98 rfl ?_
              refine x_aload_n C 99 1 dX9_fillsHangs_99 rfl ?_
              refine fg_logAt C 100 dX9_fillsHangs_100 ?_
              refine x_iload_n C 103 3 dX9_fillsHangs_103 rfl ?_
              refine x_iald C 104 (Nat.le_of_ble_eq_true rfl) (km_27 V _) dX9_fillsHangs_104 (fun _ => ?_)
              refine fp_hangsFirst C 105 dX9_fillsHangs_105 (fun s_105 => ?_)
              refine Y_sub [1, 2, 3] rfl ?_
              exact hJ108 _ _
          · refine x_goto C 88 118 dX9_fillsHangs_88 (by decide) ?_
            refine x_iinct C 118 3 (1 : Int32) (fun v2_118 => [(2, .int v2_118), (3, .int r69), (0, .ref (zA (Zm V) 0)), (1, .int v1)]) dX9_fillsHangs_118 rfl ki_1 (hN _ (Nat.le_of_ble_eq_true rfl)) (fun _ => rfl) (fun v2_118 => ?_)
            refine x_goto C 121 45 dX9_fillsHangs_121 (by decide) ?_
            refine Y_sub [2, 3, 0] rfl ?_
            exact x_back (v2_118, s_69) (hb45 (v2_118, s_69))
      · refine x_goto C 58 118 dX9_fillsHangs_58 (by decide) ?_
        refine x_iinct C 118 2 (1 : Int32) (fun v2_118 => [(2, .int v2_118), (0, .ref (zA (Zm V) 0)), (1, .int v1)]) dX9_fillsHangs_118 rfl ki_1 (hN _ (Nat.le_of_ble_eq_true rfl)) (fun _ => rfl) (fun v2_118 => ?_)
        refine x_goto C 121 45 dX9_fillsHangs_121 (by decide) ?_
        refine Y_sub [1, 2, 0] rfl ?_
        exact x_back (v2_118, s_45) (hb45 (v2_118, s_45))
  · refine x_aload_n C 10 0 dX9_fillsHangs_10 rfl ?_
    refine fg_outFull C 11 dX9_fillsHangs_11 ?_
    refine x_iload_n C 14 2 dX9_fillsHangs_14 rfl ?_
    refine x_aload_n C 15 0 dX9_fillsHangs_15 rfl ?_
    refine fg_outAt C 16 dX9_fillsHangs_16 ?_
    refine x_iload_n C 19 2 dX9_fillsHangs_19 rfl ?_
    refine x_iald C 20 (Nat.le_of_ble_eq_true rfl) (km_30 V _) dX9_fillsHangs_20 (fun _ => ?_)
    refine x_iast C 21 (Nat.le_of_ble_eq_true rfl) (km_34 V) dX9_fillsHangs_21 (fun _ s_21 => ?_)
    refine x_iinct C 22 2 (1 : Int32) (fun v2_22 => [(2, .int v2_22), (0, .ref (zA (Zm V) 0)), (1, .int v1)]) dX9_fillsHangs_22 rfl ki_1 (hN _ (Nat.le_of_ble_eq_true rfl)) (fun _ => rfl) (fun v2_22 => ?_)
    refine x_goto C 25 2 dX9_fillsHangs_25 (by decide) ?_
    refine Y_sub [1, 2, 0] rfl ?_
    exact x_back (v2_22, s_21) (hb2 (v2_22, s_21))
def M_X9_hangs (σ : Wd) (v1 : Int32) (v2 : Int32) (v3 : Int32) : Option (Int32 × Wd) :=
  bnd1 (M_X9_isCopy σ v1) fun r2 => if r2 = 0 then (some ((-1 : Int32), σ)) else (bnd1 (M_X9_isWrite σ v2) fun r10 => if r10 = 0 then (some ((-1 : Int32), σ)) else (bnd1 (M_X9_in v3 (0 : Int32) (1 : Int32)) fun r19 => if r19 ≠ 0 then (bnd1 (M_X9_copiesNow σ) fun s_28 => bnd1 (M_X9_doesAll s_28 v1) fun s_33 => bnd1 (M_X9_whereOf s_33 v2) fun r38 => if 0 ≤ r38 then (bnd1 (M_X9_fillsHangs s_33 r38) fun s_54 => if v3 ≠ 0 then (some ((gI s_54 0 56), s_54)) else (some ((gI s_54 0 55), s_54))) else (some ((-3 : Int32), s_33))) else (some ((-1 : Int32), σ))))
set_option maxRecDepth 100000 in
set_option maxHeartbeats 4000000 in
theorem c_X9_hangs (V : Vt) (l : Launch) (σ : Wd) (v1 : Int32) (v2 : Int32) (v3 : Int32) {r : Int32} {σ2 : Wd} (h : M_X9_hangs σ v1 v2 v3 = some (r, σ2)) : Ct l (Zm V) yX9_hangs cX9_hangs 5 (some .int) 5 121 [.ref (zA (Zm V) 0), .int v1, .int v2, .int v3] σ (some (.int r)) σ2 := by
  refine Ct_intro (own := RX9) zm_ok (by decide +kernel) rfl (Nat.le_of_ble_eq_true rfl) [(0, .ref (zA (Zm V) 0)), (1, .int v1), (2, .int v2), (3, .int v3)] rfl (fun K C R hKl hnL => ?_)
  have hN := nl_of hnL
  subst hKl
  refine Y_end h ?_
  unfold M_X9_hangs
  refine x_aload_n C 0 0 dX9_hangs_0 rfl ?_
  refine x_iload_n C 1 1 dX9_hangs_1 rfl ?_
  refine Y_bnd1 (fun r2 h2 => ?_)
  refine x_callVi C 2 [.int v1] [] rfl tw_1575 mv_X9_isCopy (Nat.le_of_ble_eq_true rfl) (Nat.le_of_ble_eq_true rfl) (Nat.le_of_ble_eq_true rfl) (Nat.le_of_ble_eq_true rfl) (km_0 V _) rfl dX9_hangs_2 (c_X9_isCopy V _ _ _ h2) ?_
  refine x_if_eq C 5 25 dX9_hangs_5 (by decide) (fun _ => ?_) (fun _ => ?_)
  · refine x_iconst C 25 dX9_hangs_25 ki_m1 ?_
    exact x_iret2 C R 26 dX9_hangs_26
  · refine x_aload_n C 8 0 dX9_hangs_8 rfl ?_
    refine x_iload_n C 9 2 dX9_hangs_9 rfl ?_
    refine Y_bnd1 (fun r10 h10 => ?_)
    refine x_callVi C 10 [.int v2] [] rfl tw_1766 mv_X9_isWrite (Nat.le_of_ble_eq_true rfl) (Nat.le_of_ble_eq_true rfl) (Nat.le_of_ble_eq_true rfl) (Nat.le_of_ble_eq_true rfl) (km_0 V _) rfl dX9_hangs_10 (c_X9_isWrite V _ _ _ h10) ?_
    refine x_if_eq C 13 25 dX9_hangs_13 (by decide) (fun _ => ?_) (fun _ => ?_)
    · refine x_iconst C 25 dX9_hangs_25 ki_m1 ?_
      exact x_iret2 C R 26 dX9_hangs_26
    · refine x_iload_n C 16 3 dX9_hangs_16 rfl ?_
      refine x_iconst C 17 dX9_hangs_17 ki_0 ?_
      refine x_iconst C 18 dX9_hangs_18 ki_1 ?_
      refine Y_bnd1 (fun r19 h19 => ?_)
      refine x_callSi C 19 [.int v3, .int (0 : Int32), .int (1 : Int32)] [] rfl tw_1572 ms_X9_in (Nat.le_of_ble_eq_true rfl) (Nat.le_of_ble_eq_true rfl) (Nat.le_of_ble_eq_true rfl) dX9_hangs_19 (c_X9_in V _ _ _ _ _ h19) ?_
      refine x_if_ne C 22 27 dX9_hangs_22 (by decide) (fun _ => ?_) (fun _ => ?_)
      · refine x_aload_n C 27 0 dX9_hangs_27 rfl ?_
        refine Y_bnd1 (fun s_28 h28 => ?_)
        refine x_callVv C 28 [] [] rfl tw_1579 mv_X9_copiesNow (Nat.le_of_ble_eq_true rfl) (Nat.le_of_ble_eq_true rfl) (Nat.le_of_ble_eq_true rfl) (Nat.le_of_ble_eq_true rfl) (km_0 V _) rfl dX9_hangs_28 (c_X9_copiesNow V _ _  h28) ?_
        refine x_aload_n C 31 0 dX9_hangs_31 rfl ?_
        refine x_iload_n C 32 1 dX9_hangs_32 rfl ?_
        refine Y_bnd1 (fun s_33 h33 => ?_)
        refine x_callVv C 33 [.int v1] [] rfl tw_1671 mv_X9_doesAll (Nat.le_of_ble_eq_true rfl) (Nat.le_of_ble_eq_true rfl) (Nat.le_of_ble_eq_true rfl) (Nat.le_of_ble_eq_true rfl) (km_0 V _) rfl dX9_hangs_33 (c_X9_doesAll V _ _ _ h33) ?_
        refine x_aload_n C 36 0 dX9_hangs_36 rfl ?_
        refine x_iload_n C 37 2 dX9_hangs_37 rfl ?_
        refine Y_bnd1 (fun r38 h38 => ?_)
        refine x_callVi C 38 [.int v2] [] rfl tw_1770 mv_X9_whereOf (Nat.le_of_ble_eq_true rfl) (Nat.le_of_ble_eq_true rfl) (Nat.le_of_ble_eq_true rfl) (Nat.le_of_ble_eq_true rfl) (km_0 V _) rfl dX9_hangs_38 (c_X9_whereOf V _ _ _ h38) ?_
        refine x_istore C 41 (L' := [(4, .int r38), (0, .ref (zA (Zm V) 0)), (1, .int v1), (2, .int v2), (3, .int v3)]) dX9_hangs_41 (hN _ (Nat.le_of_ble_eq_true rfl)) rfl ?_
        refine x_iload C 43 0 dX9_hangs_43 rfl ?_
        refine x_if_ge C 45 51 dX9_hangs_45 (by decide) (fun _ => ?_) (fun _ => ?_)
        · refine x_aload_n C 51 1 dX9_hangs_51 rfl ?_
          refine x_iload C 52 0 dX9_hangs_52 rfl ?_
          refine Y_bnd1 (fun s_54 h54 => ?_)
          refine x_callVv C 54 [.int r38] [] rfl tw_1838 mv_X9_fillsHangs (Nat.le_of_ble_eq_true rfl) (Nat.le_of_ble_eq_true rfl) (Nat.le_of_ble_eq_true rfl) (Nat.le_of_ble_eq_true rfl) (km_0 V _) rfl dX9_hangs_54 (c_X9_fillsHangs V _ _ _ h54) ?_
          refine x_iload_n C 57 4 dX9_hangs_57 rfl ?_
          refine x_if_ne C 58 68 dX9_hangs_58 (by decide) (fun _ => ?_) (fun _ => ?_)
          · refine x_aload_n C 68 1 dX9_hangs_68 rfl ?_
            refine fg_hangsFirst C 69 dX9_hangs_69 ?_
            exact x_iret2 C R 72 dX9_hangs_72
          · refine x_aload_n C 61 1 dX9_hangs_61 rfl ?_
            refine fg_hangsMany C 62 dX9_hangs_62 ?_
            refine x_goto C 65 72 dX9_hangs_65 (by decide) ?_
            exact x_iret2 C R 72 dX9_hangs_72
        · refine x_bipush C 48 dX9_hangs_48 kb_m3 ?_
          exact x_iret2 C R 50 dX9_hangs_50
      · refine x_iconst C 25 dX9_hangs_25 ki_m1 ?_
        exact x_iret2 C R 26 dX9_hangs_26
def M_X9_key_L38 (v2 : Int32) (v3 : Int32) (v4 : Int32) (v5 : Int32) (σ : Wd) : Option ((Int32 × Int32 × Int32 × Wd) ⊕ (Int32 × Int32 × Wd)) :=
  if (gI σ 0 45) ≤ v5 then (some (.inr (v3, v4, σ))) else (bnd1 (M_X9_fillsHangs σ v5) fun s_50 => if (gI s_50 0 55) = 0 then (lt (v5 + (1 : Int32)) fun v5_86 => some (.inl (v3, v4, v5_86, s_50))) else (if v4 < (gI s_50 0 55) then (chk (ib v5 60) (lt (gI s_50 27 (ix v5)) fun v3_79 => lt (gI s_50 0 55) fun v4_84 => lt (v5 + (1 : Int32)) fun v5_86 => some (.inl (v3_79, v4_84, v5_86, s_50)))) else (lt (v5 + (1 : Int32)) fun v5_86 => some (.inl (v3, v4, v5_86, s_50)))))
def M_X9_key (σ : Wd) (v1 : Int32) (v2 : Int32) : Option (Int32 × Wd) :=
  bnd1 (M_X9_isCopy σ v1) fun r2 => if r2 = 0 then (some ((-1 : Int32), σ)) else (bnd1 (M_X9_in v2 (0 : Int32) (1 : Int32)) fun r11 => if r11 ≠ 0 then (bnd1 (M_X9_copiesNow σ) fun s_20 => bnd1 (M_X9_doesAll s_20 v1) fun s_25 => bnd1 (iter (fun s : Int32 × Int32 × Int32 × Wd => M_X9_key_L38 v2 s.1 s.2.1 s.2.2.1 s.2.2.2) FU ((-2 : Int32), (-2 : Int32), (0 : Int32), s_25)) (un3 fun x3_38 x4_38 sx_38 => (if v2 ≠ 0 then (some (x4_38, sx_38)) else (some (x3_38, sx_38))))) else (some ((-1 : Int32), σ)))
set_option maxRecDepth 100000 in
set_option maxHeartbeats 4000000 in
theorem c_X9_key (V : Vt) (l : Launch) (σ : Wd) (v1 : Int32) (v2 : Int32) {r : Int32} {σ2 : Wd} (h : M_X9_key σ v1 v2 = some (r, σ2)) : Ct l (Zm V) yX9_key cX9_key 6 (some .int) 5 121 [.ref (zA (Zm V) 0), .int v1, .int v2] σ (some (.int r)) σ2 := by
  refine Ct_intro (own := RX9) zm_ok (by decide +kernel) rfl (Nat.le_of_ble_eq_true rfl) [(0, .ref (zA (Zm V) 0)), (1, .int v1), (2, .int v2)] rfl (fun K C R hKl hnL => ?_)
  have hN := nl_of hnL
  subst hKl
  refine Y_end h ?_
  unfold M_X9_key
  refine x_aload_n C 0 0 dX9_key_0 rfl ?_
  refine x_iload_n C 1 1 dX9_key_1 rfl ?_
  refine Y_bnd1 (fun r2 h2 => ?_)
  refine x_callVi C 2 [.int v1] [] rfl tw_1575 mv_X9_isCopy (Nat.le_of_ble_eq_true rfl) (Nat.le_of_ble_eq_true rfl) (Nat.le_of_ble_eq_true rfl) (Nat.le_of_ble_eq_true rfl) (km_0 V _) rfl dX9_key_2 (c_X9_isCopy V _ _ _ h2) ?_
  refine x_if_eq C 5 17 dX9_key_5 (by decide) (fun _ => ?_) (fun _ => ?_)
  · refine x_iconst C 17 dX9_key_17 ki_m1 ?_
    exact x_iret2 C R 18 dX9_key_18
  · refine x_iload_n C 8 2 dX9_key_8 rfl ?_
    refine x_iconst C 9 dX9_key_9 ki_0 ?_
    refine x_iconst C 10 dX9_key_10 ki_1 ?_
    refine Y_bnd1 (fun r11 h11 => ?_)
    refine x_callSi C 11 [.int v2, .int (0 : Int32), .int (1 : Int32)] [] rfl tw_1572 ms_X9_in (Nat.le_of_ble_eq_true rfl) (Nat.le_of_ble_eq_true rfl) (Nat.le_of_ble_eq_true rfl) dX9_key_11 (c_X9_in V _ _ _ _ _ h11) ?_
    refine x_if_ne C 14 19 dX9_key_14 (by decide) (fun _ => ?_) (fun _ => ?_)
    · refine x_aload_n C 19 0 dX9_key_19 rfl ?_
      refine Y_bnd1 (fun s_20 h20 => ?_)
      refine x_callVv C 20 [] [] rfl tw_1579 mv_X9_copiesNow (Nat.le_of_ble_eq_true rfl) (Nat.le_of_ble_eq_true rfl) (Nat.le_of_ble_eq_true rfl) (Nat.le_of_ble_eq_true rfl) (km_0 V _) rfl dX9_key_20 (c_X9_copiesNow V _ _  h20) ?_
      refine x_aload_n C 23 0 dX9_key_23 rfl ?_
      refine x_iload_n C 24 1 dX9_key_24 rfl ?_
      refine Y_bnd1 (fun s_25 h25 => ?_)
      refine x_callVv C 25 [.int v1] [] rfl tw_1671 mv_X9_doesAll (Nat.le_of_ble_eq_true rfl) (Nat.le_of_ble_eq_true rfl) (Nat.le_of_ble_eq_true rfl) (Nat.le_of_ble_eq_true rfl) (km_0 V _) rfl dX9_key_25 (c_X9_doesAll V _ _ _ h25) ?_
      refine x_bipush C 28 dX9_key_28 kb_m2 ?_
      refine x_istore_n C 30 (L' := [(3, .int (-2 : Int32)), (0, .ref (zA (Zm V) 0)), (1, .int v1), (2, .int v2)]) dX9_key_30 rfl (hN _ (Nat.le_of_ble_eq_true rfl)) rfl ?_
      refine x_bipush C 31 dX9_key_31 kb_m2 ?_
      refine x_istore C 33 (L' := [(4, .int (-2 : Int32)), (3, .int (-2 : Int32)), (0, .ref (zA (Zm V) 0)), (1, .int v1), (2, .int v2)]) dX9_key_33 (hN _ (Nat.le_of_ble_eq_true rfl)) rfl ?_
      refine x_iconst C 35 dX9_key_35 ki_0 ?_
      refine x_istore C 36 (L' := [(5, .int (0 : Int32)), (4, .int (-2 : Int32)), (3, .int (-2 : Int32)), (0, .ref (zA (Zm V) 0)), (1, .int v1), (2, .int v2)]) dX9_key_36 (hN _ (Nat.le_of_ble_eq_true rfl)) rfl ?_
      refine Y_sub [3, 5, 2, 1, 0] rfl ?_
      refine x_loop 38 (fun s : Int32 × Int32 × Int32 × Wd => s.2.2.2) (fun s : Int32 × Int32 × Int32 × Wd => [(0, .ref (zA (Zm V) 0)), (2, .int v2), (3, .int s.1), (4, .int s.2.1), (5, .int s.2.2.1)]) (fun E38 hb38 hx38 s => ?_) FU ((-2 : Int32), (-2 : Int32), (0 : Int32), s_25)
      obtain ⟨v3_38, v4_38, v5_38, s_38⟩ := s
      show Y K (Zm V) (M_X9_key_L38 v2 v3_38 v4_38 v5_38 s_38) E38 s_38 38 [(0, .ref (zA (Zm V) 0)), (2, .int v2), (3, .int v3_38), (4, .int v4_38), (5, .int v5_38)] []
      unfold M_X9_key_L38
      refine x_iload C 38 4 dX9_key_38 rfl ?_
      refine x_aload_n C 40 0 dX9_key_40 rfl ?_
      refine fg_logMany C 41 dX9_key_41 ?_
      refine x_icmp_ge C 44 92 dX9_key_44 (by decide) (fun _ => ?_) (fun _ => ?_)
      · refine x_ex3 hx38 v3_38 v4_38 s_38 ?_
        refine x_iload_n C 92 1 dX9_key_92 rfl ?_
        refine x_if_ne C 93 100 dX9_key_93 (by decide) (fun _ => ?_) (fun _ => ?_)
        · refine x_iload C 100 3 dX9_key_100 rfl ?_
          exact x_iret2 C R 102 dX9_key_102
        · refine x_iload_n C 96 2 dX9_key_96 rfl ?_
          refine x_goto C 97 102 dX9_key_97 (by decide) ?_
          exact x_iret2 C R 102 dX9_key_102
      · refine x_aload_n C 47 0 dX9_key_47 rfl ?_
        refine x_iload C 48 4 dX9_key_48 rfl ?_
        refine Y_bnd1 (fun s_50 h50 => ?_)
        refine x_callVv C 50 [.int v5_38] [] rfl tw_1838 mv_X9_fillsHangs (Nat.le_of_ble_eq_true rfl) (Nat.le_of_ble_eq_true rfl) (Nat.le_of_ble_eq_true rfl) (Nat.le_of_ble_eq_true rfl) (km_0 V _) rfl dX9_key_50 (c_X9_fillsHangs V _ _ _ h50) ?_
        refine x_aload_n C 53 0 dX9_key_53 rfl ?_
        refine fg_hangsMany C 54 dX9_key_54 ?_
        refine x_if_eq C 57 86 dX9_key_57 (by decide) (fun _ => ?_) (fun _ => ?_)
        · refine x_iinct C 86 4 (1 : Int32) (fun v5_86 => [(5, .int v5_86), (0, .ref (zA (Zm V) 0)), (2, .int v2), (3, .int v3_38), (4, .int v4_38)]) dX9_key_86 rfl ki_1 (hN _ (Nat.le_of_ble_eq_true rfl)) (fun _ => rfl) (fun v5_86 => ?_)
          refine x_goto C 89 38 dX9_key_89 (by decide) ?_
          refine Y_sub [1, 2, 3, 4, 0] rfl ?_
          exact x_back (v3_38, v4_38, v5_86, s_50) (hb38 (v3_38, v4_38, v5_86, s_50))
        · refine x_aload_n C 60 0 dX9_key_60 rfl ?_
          refine fg_hangsMany C 61 dX9_key_61 ?_
          refine x_iload C 64 3 dX9_key_64 rfl ?_
          refine x_icmp_gt C 66 72 dX9_key_66 (by decide) (fun _ => ?_) (fun _ => ?_)
          · refine x_aload_n C 72 0 dX9_key_72 rfl ?_
            refine fg_logAt C 73 dX9_key_73 ?_
            refine x_iload C 76 4 dX9_key_76 rfl ?_
            refine x_iald C 78 (Nat.le_of_ble_eq_true rfl) (km_27 V _) dX9_key_78 (fun _ => ?_)
            refine x_istore_nt C 79 (fun v3_79 => [(3, .int v3_79), (0, .ref (zA (Zm V) 0)), (2, .int v2), (4, .int v4_38), (5, .int v5_38)]) dX9_key_79 rfl (hN _ (Nat.le_of_ble_eq_true rfl)) (fun _ => rfl) (fun v3_79 => ?_)
            refine x_aload_n C 80 1 dX9_key_80 rfl ?_
            refine fg_hangsMany C 81 dX9_key_81 ?_
            refine x_istoret C 84 (fun v4_84 => [(4, .int v4_84), (3, .int v3_79), (0, .ref (zA (Zm V) 0)), (2, .int v2), (5, .int v5_38)]) dX9_key_84 (hN _ (Nat.le_of_ble_eq_true rfl)) (fun _ => rfl) (fun v4_84 => ?_)
            refine x_iinct C 86 4 (1 : Int32) (fun v5_86 => [(5, .int v5_86), (4, .int v4_84), (3, .int v3_79), (0, .ref (zA (Zm V) 0)), (2, .int v2)]) dX9_key_86 rfl ki_1 (hN _ (Nat.le_of_ble_eq_true rfl)) (fun _ => rfl) (fun v5_86 => ?_)
            refine x_goto C 89 38 dX9_key_89 (by decide) ?_
            refine Y_sub [3, 4, 2, 1, 0] rfl ?_
            exact x_back (v3_79, v4_84, v5_86, s_50) (hb38 (v3_79, v4_84, v5_86, s_50))
          · refine x_goto C 69 86 dX9_key_69 (by decide) ?_
            refine x_iinct C 86 4 (1 : Int32) (fun v5_86 => [(5, .int v5_86), (0, .ref (zA (Zm V) 0)), (2, .int v2), (3, .int v3_38), (4, .int v4_38)]) dX9_key_86 rfl ki_1 (hN _ (Nat.le_of_ble_eq_true rfl)) (fun _ => rfl) (fun v5_86 => ?_)
            refine x_goto C 89 38 dX9_key_89 (by decide) ?_
            refine Y_sub [1, 2, 3, 4, 0] rfl ?_
            exact x_back (v3_38, v4_38, v5_86, s_50) (hb38 (v3_38, v4_38, v5_86, s_50))
    · refine x_iconst C 17 dX9_key_17 ki_m1 ?_
      exact x_iret2 C R 18 dX9_key_18
def M_X9_behind_J48 (σ : Wd) (v2 : Int32) (t0 : Int32) : Option (Int32 × Wd) :=
  bnd1 (M_X9_doesLog σ t0) fun s_48 => chk (ib v2 6) (some ((gI s_48 29 (ix v2)), s_48))
def M_X9_behind (σ : Wd) (v1 : Int32) (v2 : Int32) (v3 : Int32) : Option (Int32 × Wd) :=
  bnd1 (M_X9_isCopy σ v1) fun r2 => if r2 = 0 then (some ((0 : Int32), σ)) else (bnd1 (M_X9_isCell σ v2) fun r10 => if r10 = 0 then (some ((0 : Int32), σ)) else (if 0 ≤ v3 then (bnd1 (M_X9_copiesNow σ) fun s_23 => bnd1 (M_X9_fillsLog s_23 v1) fun s_28 => if (gI s_28 0 45) ≤ v3 then (M_X9_behind_J48 s_28 v2 (gI s_28 0 45)) else (M_X9_behind_J48 s_28 v2 v3)) else (some ((0 : Int32), σ))))
set_option maxRecDepth 100000 in
set_option maxHeartbeats 4000000 in
theorem c_X9_behind (V : Vt) (l : Launch) (σ : Wd) (v1 : Int32) (v2 : Int32) (v3 : Int32) {r : Int32} {σ2 : Wd} (h : M_X9_behind σ v1 v2 v3 = some (r, σ2)) : Ct l (Zm V) yX9_behind cX9_behind 4 (some .int) 4 100 [.ref (zA (Zm V) 0), .int v1, .int v2, .int v3] σ (some (.int r)) σ2 := by
  refine Ct_intro (own := RX9) zm_ok (by decide +kernel) rfl (Nat.le_of_ble_eq_true rfl) [(0, .ref (zA (Zm V) 0)), (1, .int v1), (2, .int v2), (3, .int v3)] rfl (fun K C R hKl hnL => ?_)
  have hN := nl_of hnL
  subst hKl
  refine Y_end h ?_
  unfold M_X9_behind
  refine x_aload_n C 0 0 dX9_behind_0 rfl ?_
  refine x_iload_n C 1 1 dX9_behind_1 rfl ?_
  refine Y_bnd1 (fun r2 h2 => ?_)
  refine x_callVi C 2 [.int v1] [] rfl tw_1575 mv_X9_isCopy (Nat.le_of_ble_eq_true rfl) (Nat.le_of_ble_eq_true rfl) (Nat.le_of_ble_eq_true rfl) (Nat.le_of_ble_eq_true rfl) (km_0 V _) rfl dX9_behind_2 (c_X9_isCopy V _ _ _ h2) ?_
  refine x_if_eq C 5 20 dX9_behind_5 (by decide) (fun _ => ?_) (fun _ => ?_)
  · refine x_iconst C 20 dX9_behind_20 ki_0 ?_
    exact x_iret2 C R 21 dX9_behind_21
  · refine x_aload_n C 8 0 dX9_behind_8 rfl ?_
    refine x_iload_n C 9 2 dX9_behind_9 rfl ?_
    refine Y_bnd1 (fun r10 h10 => ?_)
    refine x_callVi C 10 [.int v2] [] rfl tw_1659 mv_X9_isCell (Nat.le_of_ble_eq_true rfl) (Nat.le_of_ble_eq_true rfl) (Nat.le_of_ble_eq_true rfl) (Nat.le_of_ble_eq_true rfl) (km_0 V _) rfl dX9_behind_10 (c_X9_isCell V _ _ _ h10) ?_
    refine x_if_eq C 13 20 dX9_behind_13 (by decide) (fun _ => ?_) (fun _ => ?_)
    · refine x_iconst C 20 dX9_behind_20 ki_0 ?_
      exact x_iret2 C R 21 dX9_behind_21
    · refine x_iload_n C 16 3 dX9_behind_16 rfl ?_
      refine x_if_ge C 17 22 dX9_behind_17 (by decide) (fun _ => ?_) (fun _ => ?_)
      · refine x_aload_n C 22 0 dX9_behind_22 rfl ?_
        refine Y_bnd1 (fun s_23 h23 => ?_)
        refine x_callVv C 23 [] [] rfl tw_1579 mv_X9_copiesNow (Nat.le_of_ble_eq_true rfl) (Nat.le_of_ble_eq_true rfl) (Nat.le_of_ble_eq_true rfl) (Nat.le_of_ble_eq_true rfl) (km_0 V _) rfl dX9_behind_23 (c_X9_copiesNow V _ _  h23) ?_
        refine x_aload_n C 26 0 dX9_behind_26 rfl ?_
        refine x_iload_n C 27 1 dX9_behind_27 rfl ?_
        refine Y_bnd1 (fun s_28 h28 => ?_)
        refine x_callVv C 28 [.int v1] [] rfl tw_1631 mv_X9_fillsLog (Nat.le_of_ble_eq_true rfl) (Nat.le_of_ble_eq_true rfl) (Nat.le_of_ble_eq_true rfl) (Nat.le_of_ble_eq_true rfl) (km_0 V _) rfl dX9_behind_28 (c_X9_fillsLog V _ _ _ h28) ?_
        refine x_aload_n C 31 0 dX9_behind_31 rfl ?_
        refine x_iload_n C 32 3 dX9_behind_32 rfl ?_
        refine x_aload_n C 33 0 dX9_behind_33 rfl ?_
        refine fg_logMany C 34 dX9_behind_34 ?_
        have hJ48 : ∀ (σ_48 : Wd) (v2_48 : Int32) (t0_48 : Int32), Y K (Zm V) (M_X9_behind_J48 σ_48 v2_48 t0_48) (fun q => q = (r, σ2)) σ_48 48 [(0, .ref (zA (Zm V) 0)), (2, .int v2_48)] [.int t0_48, .ref (zA (Zm V) 0)] := by
          intro σ_48 v2_48 t0_48
          unfold M_X9_behind_J48
          refine Y_bnd1 (fun s_48 h48 => ?_)
          refine x_callVv C 48 [.int t0_48] [] rfl tw_1675 mv_X9_doesLog (Nat.le_of_ble_eq_true rfl) (Nat.le_of_ble_eq_true rfl) (Nat.le_of_ble_eq_true rfl) (Nat.le_of_ble_eq_true rfl) (km_0 V _) rfl dX9_behind_48 (c_X9_doesLog V _ _ _ h48) ?_
          refine x_aload_n C 51 0 dX9_behind_51 rfl ?_
          refine fg_cellNow C 52 dX9_behind_52 ?_
          refine x_iload_n C 55 1 dX9_behind_55 rfl ?_
          refine x_iald C 56 (Nat.le_of_ble_eq_true rfl) (km_29 V _) dX9_behind_56 (fun _ => ?_)
          exact x_iret2 C R 57 dX9_behind_57
        refine x_icmp_ge C 37 44 dX9_behind_37 (by decide) (fun _ => ?_) (fun _ => ?_)
        · refine x_aload_n C 44 0 dX9_behind_44 rfl ?_
          refine fg_logMany C 45 dX9_behind_45 ?_
          refine Y_sub [0, 2] rfl ?_
          exact hJ48 _ _ _
        · refine x_iload_n C 40 3 dX9_behind_40 rfl ?_
          refine x_goto C 41 48 dX9_behind_41 (by decide) ?_
          refine Y_sub [0, 2] rfl ?_
          exact hJ48 _ _ _
      · refine x_iconst C 20 dX9_behind_20 ki_0 ?_
        exact x_iret2 C R 21 dX9_behind_21
def M_X9_share (σ : Wd) (v1 : Int32) : Option (Int32 × Wd) :=
  bnd1 (M_X9_isCopy σ v1) fun r2 => if r2 ≠ 0 then (bnd1 (M_X9_copiesNow σ) fun s_11 => bnd1 (M_X9_fillsLog s_11 v1) fun s_16 => chk (ib (0 : Int32) 770) (if (gI s_16 26 (ix (0 : Int32))) ≠ 0 then (chk (ib (0 : Int32) 770) (chk (¬ (gI s_16 26 (ix (0 : Int32))) = 0) (some ((((1000 : Int32) * (gI s_16 0 45)) / (gI s_16 26 (ix (0 : Int32)))), s_16)))) else (some ((0 : Int32), s_16)))) else (some ((-1 : Int32), σ))
set_option maxRecDepth 100000 in
set_option maxHeartbeats 4000000 in
theorem c_X9_share (V : Vt) (l : Launch) (σ : Wd) (v1 : Int32) {r : Int32} {σ2 : Wd} (h : M_X9_share σ v1 = some (r, σ2)) : Ct l (Zm V) yX9_share cX9_share 2 (some .int) 3 70 [.ref (zA (Zm V) 0), .int v1] σ (some (.int r)) σ2 := by
  refine Ct_intro (own := RX9) zm_ok (by decide +kernel) rfl (Nat.le_of_ble_eq_true rfl) [(0, .ref (zA (Zm V) 0)), (1, .int v1)] rfl (fun K C R hKl hnL => ?_)
  have hN := nl_of hnL
  subst hKl
  refine Y_end h ?_
  unfold M_X9_share
  refine x_aload_n C 0 0 dX9_share_0 rfl ?_
  refine x_iload_n C 1 1 dX9_share_1 rfl ?_
  refine Y_bnd1 (fun r2 h2 => ?_)
  refine x_callVi C 2 [.int v1] [] rfl tw_1575 mv_X9_isCopy (Nat.le_of_ble_eq_true rfl) (Nat.le_of_ble_eq_true rfl) (Nat.le_of_ble_eq_true rfl) (Nat.le_of_ble_eq_true rfl) (km_0 V _) rfl dX9_share_2 (c_X9_isCopy V _ _ _ h2) ?_
  refine x_if_ne C 5 10 dX9_share_5 (by decide) (fun _ => ?_) (fun _ => ?_)
  · refine x_aload_n C 10 0 dX9_share_10 rfl ?_
    refine Y_bnd1 (fun s_11 h11 => ?_)
    refine x_callVv C 11 [] [] rfl tw_1579 mv_X9_copiesNow (Nat.le_of_ble_eq_true rfl) (Nat.le_of_ble_eq_true rfl) (Nat.le_of_ble_eq_true rfl) (Nat.le_of_ble_eq_true rfl) (km_0 V _) rfl dX9_share_11 (c_X9_copiesNow V _ _  h11) ?_
    refine x_aload_n C 14 0 dX9_share_14 rfl ?_
    refine x_iload_n C 15 1 dX9_share_15 rfl ?_
    refine Y_bnd1 (fun s_16 h16 => ?_)
    refine x_callVv C 16 [.int v1] [] rfl tw_1631 mv_X9_fillsLog (Nat.le_of_ble_eq_true rfl) (Nat.le_of_ble_eq_true rfl) (Nat.le_of_ble_eq_true rfl) (Nat.le_of_ble_eq_true rfl) (km_0 V _) rfl dX9_share_16 (c_X9_fillsLog V _ _ _ h16) ?_
    refine x_aload_n C 19 0 dX9_share_19 rfl ?_
    refine fg_row C 20 dX9_share_20 ?_
    refine x_iconst C 23 dX9_share_23 ki_0 ?_
    refine x_iald C 24 (Nat.le_of_ble_eq_true rfl) (km_26 V _) dX9_share_24 (fun _ => ?_)
    refine x_if_ne C 25 32 dX9_share_25 (by decide) (fun _ => ?_) (fun _ => ?_)
    · refine x_sipush C 32 dX9_share_32 ks_1000 ?_
      refine x_aload_n C 35 0 dX9_share_35 rfl ?_
      refine fg_logMany C 36 dX9_share_36 ?_
      refine x_imul C 39 dX9_share_39 ?_
      refine x_aload_n C 40 0 dX9_share_40 rfl ?_
      refine fg_row C 41 dX9_share_41 ?_
      refine x_iconst C 44 dX9_share_44 ki_0 ?_
      refine x_iald C 45 (Nat.le_of_ble_eq_true rfl) (km_26 V _) dX9_share_45 (fun _ => ?_)
      refine Y_chk (fun q46 => ?_)
      refine x_idiv C 46 dX9_share_46 q46 ?_
      exact x_iret2 C R 47 dX9_share_47
    · refine x_iconst C 28 dX9_share_28 ki_0 ?_
      refine x_goto C 29 47 dX9_share_29 (by decide) ?_
      exact x_iret2 C R 47 dX9_share_47
  · refine x_iconst C 8 dX9_share_8 ki_m1 ?_
    exact x_iret2 C R 9 dX9_share_9
def M_X9_setter_L33 (σ : Wd) (v2 : Int32) (v3 : Int32) (v4 : Int32) : Option ((Int32 × Int32) ⊕ (Int32)) :=
  if (gI σ 0 45) ≤ v4 then (some (.inr v3)) else (chk (ib v4 60) (if (gI σ 31 (ix v4)) ≠ v2 then (lt (v4 + (1 : Int32)) fun v4_61 => some (.inl (v3, v4_61))) else (chk (ib v4 60) (lt (gI σ 27 (ix v4)) fun v3_60 => lt (v4 + (1 : Int32)) fun v4_61 => some (.inl (v3_60, v4_61))))))
def M_X9_setter (σ : Wd) (v1 : Int32) (v2 : Int32) : Option (Int32 × Wd) :=
  bnd1 (M_X9_isCopy σ v1) fun r2 => if r2 = 0 then (some ((-1 : Int32), σ)) else (bnd1 (M_X9_isCell σ v2) fun r10 => if r10 ≠ 0 then (bnd1 (M_X9_copiesNow σ) fun s_19 => bnd1 (M_X9_doesAll s_19 v1) fun s_24 => bnd1 (iter (fun s : Int32 × Int32 => M_X9_setter_L33 s_24 v2 s.1 s.2) FU ((-2 : Int32), (0 : Int32))) (un1 fun x3_33 => (some (x3_33, s_24)))) else (some ((-1 : Int32), σ)))
set_option maxRecDepth 100000 in
set_option maxHeartbeats 4000000 in
theorem c_X9_setter (V : Vt) (l : Launch) (σ : Wd) (v1 : Int32) (v2 : Int32) {r : Int32} {σ2 : Wd} (h : M_X9_setter σ v1 v2 = some (r, σ2)) : Ct l (Zm V) yX9_setter cX9_setter 5 (some .int) 5 121 [.ref (zA (Zm V) 0), .int v1, .int v2] σ (some (.int r)) σ2 := by
  refine Ct_intro (own := RX9) zm_ok (by decide +kernel) rfl (Nat.le_of_ble_eq_true rfl) [(0, .ref (zA (Zm V) 0)), (1, .int v1), (2, .int v2)] rfl (fun K C R hKl hnL => ?_)
  have hN := nl_of hnL
  subst hKl
  refine Y_end h ?_
  unfold M_X9_setter
  refine x_aload_n C 0 0 dX9_setter_0 rfl ?_
  refine x_iload_n C 1 1 dX9_setter_1 rfl ?_
  refine Y_bnd1 (fun r2 h2 => ?_)
  refine x_callVi C 2 [.int v1] [] rfl tw_1575 mv_X9_isCopy (Nat.le_of_ble_eq_true rfl) (Nat.le_of_ble_eq_true rfl) (Nat.le_of_ble_eq_true rfl) (Nat.le_of_ble_eq_true rfl) (km_0 V _) rfl dX9_setter_2 (c_X9_isCopy V _ _ _ h2) ?_
  refine x_if_eq C 5 16 dX9_setter_5 (by decide) (fun _ => ?_) (fun _ => ?_)
  · refine x_iconst C 16 dX9_setter_16 ki_m1 ?_
    exact x_iret2 C R 17 dX9_setter_17
  · refine x_aload_n C 8 0 dX9_setter_8 rfl ?_
    refine x_iload_n C 9 2 dX9_setter_9 rfl ?_
    refine Y_bnd1 (fun r10 h10 => ?_)
    refine x_callVi C 10 [.int v2] [] rfl tw_1659 mv_X9_isCell (Nat.le_of_ble_eq_true rfl) (Nat.le_of_ble_eq_true rfl) (Nat.le_of_ble_eq_true rfl) (Nat.le_of_ble_eq_true rfl) (km_0 V _) rfl dX9_setter_10 (c_X9_isCell V _ _ _ h10) ?_
    refine x_if_ne C 13 18 dX9_setter_13 (by decide) (fun _ => ?_) (fun _ => ?_)
    · refine x_aload_n C 18 0 dX9_setter_18 rfl ?_
      refine Y_bnd1 (fun s_19 h19 => ?_)
      refine x_callVv C 19 [] [] rfl tw_1579 mv_X9_copiesNow (Nat.le_of_ble_eq_true rfl) (Nat.le_of_ble_eq_true rfl) (Nat.le_of_ble_eq_true rfl) (Nat.le_of_ble_eq_true rfl) (km_0 V _) rfl dX9_setter_19 (c_X9_copiesNow V _ _  h19) ?_
      refine x_aload_n C 22 0 dX9_setter_22 rfl ?_
      refine x_iload_n C 23 1 dX9_setter_23 rfl ?_
      refine Y_bnd1 (fun s_24 h24 => ?_)
      refine x_callVv C 24 [.int v1] [] rfl tw_1671 mv_X9_doesAll (Nat.le_of_ble_eq_true rfl) (Nat.le_of_ble_eq_true rfl) (Nat.le_of_ble_eq_true rfl) (Nat.le_of_ble_eq_true rfl) (km_0 V _) rfl dX9_setter_24 (c_X9_doesAll V _ _ _ h24) ?_
      refine x_bipush C 27 dX9_setter_27 kb_m2 ?_
      refine x_istore_n C 29 (L' := [(3, .int (-2 : Int32)), (0, .ref (zA (Zm V) 0)), (1, .int v1), (2, .int v2)]) dX9_setter_29 rfl (hN _ (Nat.le_of_ble_eq_true rfl)) rfl ?_
      refine x_iconst C 30 dX9_setter_30 ki_0 ?_
      refine x_istore C 31 (L' := [(4, .int (0 : Int32)), (3, .int (-2 : Int32)), (0, .ref (zA (Zm V) 0)), (1, .int v1), (2, .int v2)]) dX9_setter_31 (hN _ (Nat.le_of_ble_eq_true rfl)) rfl ?_
      refine Y_sub [2, 4, 1, 0] rfl ?_
      refine x_loop 33 (fun s : Int32 × Int32 => s_24) (fun s : Int32 × Int32 => [(0, .ref (zA (Zm V) 0)), (2, .int v2), (3, .int s.1), (4, .int s.2)]) (fun E33 hb33 hx33 s => ?_) FU ((-2 : Int32), (0 : Int32))
      obtain ⟨v3_33, v4_33⟩ := s
      show Y K (Zm V) (M_X9_setter_L33 s_24 v2 v3_33 v4_33) E33 s_24 33 [(0, .ref (zA (Zm V) 0)), (2, .int v2), (3, .int v3_33), (4, .int v4_33)] []
      unfold M_X9_setter_L33
      refine x_iload C 33 3 dX9_setter_33 rfl ?_
      refine x_aload_n C 35 0 dX9_setter_35 rfl ?_
      refine fg_logMany C 36 dX9_setter_36 ?_
      refine x_icmp_ge C 39 67 dX9_setter_39 (by decide) (fun _ => ?_) (fun _ => ?_)
      · refine x_ex1 hx33 v3_33 ?_
        refine x_iload_n C 67 2 dX9_setter_67 rfl ?_
        exact x_iret2 C R 68 dX9_setter_68
      · refine x_aload_n C 42 0 dX9_setter_42 rfl ?_
        refine fg_changedAt C 43 dX9_setter_43 ?_
        refine x_iload C 46 3 dX9_setter_46 rfl ?_
        refine x_iald C 48 (Nat.le_of_ble_eq_true rfl) (km_31 V _) dX9_setter_48 (fun _ => ?_)
        refine x_iload_n C 49 1 dX9_setter_49 rfl ?_
        refine x_icmp_ne C 50 61 dX9_setter_50 (by decide) (fun _ => ?_) (fun _ => ?_)
        · refine x_iinct C 61 3 (1 : Int32) (fun v4_61 => [(4, .int v4_61), (0, .ref (zA (Zm V) 0)), (2, .int v2), (3, .int v3_33)]) dX9_setter_61 rfl ki_1 (hN _ (Nat.le_of_ble_eq_true rfl)) (fun _ => rfl) (fun v4_61 => ?_)
          refine x_goto C 64 33 dX9_setter_64 (by decide) ?_
          refine Y_sub [1, 2, 3, 0] rfl ?_
          exact x_back (v3_33, v4_61) (hb33 (v3_33, v4_61))
        · refine x_aload_n C 53 0 dX9_setter_53 rfl ?_
          refine fg_logAt C 54 dX9_setter_54 ?_
          refine x_iload C 57 3 dX9_setter_57 rfl ?_
          refine x_iald C 59 (Nat.le_of_ble_eq_true rfl) (km_27 V _) dX9_setter_59 (fun _ => ?_)
          refine x_istore_nt C 60 (fun v3_60 => [(3, .int v3_60), (0, .ref (zA (Zm V) 0)), (2, .int v2), (4, .int v4_33)]) dX9_setter_60 rfl (hN _ (Nat.le_of_ble_eq_true rfl)) (fun _ => rfl) (fun v3_60 => ?_)
          refine x_iinct C 61 3 (1 : Int32) (fun v4_61 => [(4, .int v4_61), (3, .int v3_60), (0, .ref (zA (Zm V) 0)), (2, .int v2)]) dX9_setter_61 rfl ki_1 (hN _ (Nat.le_of_ble_eq_true rfl)) (fun _ => rfl) (fun v4_61 => ?_)
          refine x_goto C 64 33 dX9_setter_64 (by decide) ?_
          refine Y_sub [2, 3, 1, 0] rfl ?_
          exact x_back (v3_60, v4_61) (hb33 (v3_60, v4_61))
    · refine x_iconst C 16 dX9_setter_16 ki_m1 ?_
      exact x_iret2 C R 17 dX9_setter_17
def M_X9_ahead (σ : Wd) (v1 : Int32) (v2 : Int32) (v3 : Int32) : Option (Int32 × Wd) :=
  bnd1 (M_X9_isCopy σ v1) fun r2 => if r2 = 0 then (some ((-1 : Int32), σ)) else (bnd1 (M_X9_isWrite σ v2) fun r10 => if r10 = 0 then (some ((-1 : Int32), σ)) else (bnd1 (M_X9_isWrite σ v3) fun r18 => if r18 = 0 then (some ((-1 : Int32), σ)) else (if v2 ≠ v3 then (bnd1 (M_X9_copiesNow σ) fun s_32 => bnd1 (M_X9_fillsLog s_32 v1) fun s_37 => bnd1 (M_X9_whereOf s_37 v2) fun r42 => if r42 < 0 then (some ((-2 : Int32), s_37)) else (bnd1 (M_X9_whereOf s_37 v3) fun r50 => if 0 ≤ r50 then (bnd1 (M_X9_whereOf s_37 v2) fun r61 => bnd1 (M_X9_whereOf s_37 v3) fun r66 => if r66 ≤ r61 then (some ((0 : Int32), s_37)) else (some ((1 : Int32), s_37))) else (some ((-2 : Int32), s_37)))) else (some ((-1 : Int32), σ)))))
set_option maxRecDepth 100000 in
set_option maxHeartbeats 4000000 in
theorem c_X9_ahead (V : Vt) (l : Launch) (σ : Wd) (v1 : Int32) (v2 : Int32) (v3 : Int32) {r : Int32} {σ2 : Wd} (h : M_X9_ahead σ v1 v2 v3 = some (r, σ2)) : Ct l (Zm V) yX9_ahead cX9_ahead 4 (some .int) 3 70 [.ref (zA (Zm V) 0), .int v1, .int v2, .int v3] σ (some (.int r)) σ2 := by
  refine Ct_intro (own := RX9) zm_ok (by decide +kernel) rfl (Nat.le_of_ble_eq_true rfl) [(0, .ref (zA (Zm V) 0)), (1, .int v1), (2, .int v2), (3, .int v3)] rfl (fun K C R hKl hnL => ?_)
  have hN := nl_of hnL
  subst hKl
  refine Y_end h ?_
  unfold M_X9_ahead
  refine x_aload_n C 0 0 dX9_ahead_0 rfl ?_
  refine x_iload_n C 1 1 dX9_ahead_1 rfl ?_
  refine Y_bnd1 (fun r2 h2 => ?_)
  refine x_callVi C 2 [.int v1] [] rfl tw_1575 mv_X9_isCopy (Nat.le_of_ble_eq_true rfl) (Nat.le_of_ble_eq_true rfl) (Nat.le_of_ble_eq_true rfl) (Nat.le_of_ble_eq_true rfl) (km_0 V _) rfl dX9_ahead_2 (c_X9_isCopy V _ _ _ h2) ?_
  refine x_if_eq C 5 29 dX9_ahead_5 (by decide) (fun _ => ?_) (fun _ => ?_)
  · refine x_iconst C 29 dX9_ahead_29 ki_m1 ?_
    exact x_iret2 C R 30 dX9_ahead_30
  · refine x_aload_n C 8 0 dX9_ahead_8 rfl ?_
    refine x_iload_n C 9 2 dX9_ahead_9 rfl ?_
    refine Y_bnd1 (fun r10 h10 => ?_)
    refine x_callVi C 10 [.int v2] [] rfl tw_1766 mv_X9_isWrite (Nat.le_of_ble_eq_true rfl) (Nat.le_of_ble_eq_true rfl) (Nat.le_of_ble_eq_true rfl) (Nat.le_of_ble_eq_true rfl) (km_0 V _) rfl dX9_ahead_10 (c_X9_isWrite V _ _ _ h10) ?_
    refine x_if_eq C 13 29 dX9_ahead_13 (by decide) (fun _ => ?_) (fun _ => ?_)
    · refine x_iconst C 29 dX9_ahead_29 ki_m1 ?_
      exact x_iret2 C R 30 dX9_ahead_30
    · refine x_aload_n C 16 0 dX9_ahead_16 rfl ?_
      refine x_iload_n C 17 3 dX9_ahead_17 rfl ?_
      refine Y_bnd1 (fun r18 h18 => ?_)
      refine x_callVi C 18 [.int v3] [] rfl tw_1766 mv_X9_isWrite (Nat.le_of_ble_eq_true rfl) (Nat.le_of_ble_eq_true rfl) (Nat.le_of_ble_eq_true rfl) (Nat.le_of_ble_eq_true rfl) (km_0 V _) rfl dX9_ahead_18 (c_X9_isWrite V _ _ _ h18) ?_
      refine x_if_eq C 21 29 dX9_ahead_21 (by decide) (fun _ => ?_) (fun _ => ?_)
      · refine x_iconst C 29 dX9_ahead_29 ki_m1 ?_
        exact x_iret2 C R 30 dX9_ahead_30
      · refine x_iload_n C 24 2 dX9_ahead_24 rfl ?_
        refine x_iload_n C 25 3 dX9_ahead_25 rfl ?_
        refine x_icmp_ne C 26 31 dX9_ahead_26 (by decide) (fun _ => ?_) (fun _ => ?_)
        · refine x_aload_n C 31 0 dX9_ahead_31 rfl ?_
          refine Y_bnd1 (fun s_32 h32 => ?_)
          refine x_callVv C 32 [] [] rfl tw_1579 mv_X9_copiesNow (Nat.le_of_ble_eq_true rfl) (Nat.le_of_ble_eq_true rfl) (Nat.le_of_ble_eq_true rfl) (Nat.le_of_ble_eq_true rfl) (km_0 V _) rfl dX9_ahead_32 (c_X9_copiesNow V _ _  h32) ?_
          refine x_aload_n C 35 0 dX9_ahead_35 rfl ?_
          refine x_iload_n C 36 1 dX9_ahead_36 rfl ?_
          refine Y_bnd1 (fun s_37 h37 => ?_)
          refine x_callVv C 37 [.int v1] [] rfl tw_1631 mv_X9_fillsLog (Nat.le_of_ble_eq_true rfl) (Nat.le_of_ble_eq_true rfl) (Nat.le_of_ble_eq_true rfl) (Nat.le_of_ble_eq_true rfl) (km_0 V _) rfl dX9_ahead_37 (c_X9_fillsLog V _ _ _ h37) ?_
          refine x_aload_n C 40 0 dX9_ahead_40 rfl ?_
          refine x_iload_n C 41 2 dX9_ahead_41 rfl ?_
          refine Y_bnd1 (fun r42 h42 => ?_)
          refine x_callVi C 42 [.int v2] [] rfl tw_1770 mv_X9_whereOf (Nat.le_of_ble_eq_true rfl) (Nat.le_of_ble_eq_true rfl) (Nat.le_of_ble_eq_true rfl) (Nat.le_of_ble_eq_true rfl) (km_0 V _) rfl dX9_ahead_42 (c_X9_whereOf V _ _ _ h42) ?_
          refine x_if_lt C 45 56 dX9_ahead_45 (by decide) (fun _ => ?_) (fun _ => ?_)
          · refine x_bipush C 56 dX9_ahead_56 kb_m2 ?_
            exact x_iret2 C R 58 dX9_ahead_58
          · refine x_aload_n C 48 0 dX9_ahead_48 rfl ?_
            refine x_iload_n C 49 3 dX9_ahead_49 rfl ?_
            refine Y_bnd1 (fun r50 h50 => ?_)
            refine x_callVi C 50 [.int v3] [] rfl tw_1770 mv_X9_whereOf (Nat.le_of_ble_eq_true rfl) (Nat.le_of_ble_eq_true rfl) (Nat.le_of_ble_eq_true rfl) (Nat.le_of_ble_eq_true rfl) (km_0 V _) rfl dX9_ahead_50 (c_X9_whereOf V _ _ _ h50) ?_
            refine x_if_ge C 53 59 dX9_ahead_53 (by decide) (fun _ => ?_) (fun _ => ?_)
            · refine x_aload_n C 59 0 dX9_ahead_59 rfl ?_
              refine x_iload_n C 60 2 dX9_ahead_60 rfl ?_
              refine Y_bnd1 (fun r61 h61 => ?_)
              refine x_callVi C 61 [.int v2] [] rfl tw_1770 mv_X9_whereOf (Nat.le_of_ble_eq_true rfl) (Nat.le_of_ble_eq_true rfl) (Nat.le_of_ble_eq_true rfl) (Nat.le_of_ble_eq_true rfl) (km_0 V _) rfl dX9_ahead_61 (c_X9_whereOf V _ _ _ h61) ?_
              refine x_aload_n C 64 0 dX9_ahead_64 rfl ?_
              refine x_iload_n C 65 3 dX9_ahead_65 rfl ?_
              refine Y_bnd1 (fun r66 h66 => ?_)
              refine x_callVi C 66 [.int v3] [.int r61] rfl tw_1770 mv_X9_whereOf (Nat.le_of_ble_eq_true rfl) (Nat.le_of_ble_eq_true rfl) (Nat.le_of_ble_eq_true rfl) (Nat.le_of_ble_eq_true rfl) (km_0 V _) rfl dX9_ahead_66 (c_X9_whereOf V _ _ _ h66) ?_
              refine x_icmp_ge C 69 76 dX9_ahead_69 (by decide) (fun _ => ?_) (fun _ => ?_)
              · refine x_iconst C 76 dX9_ahead_76 ki_0 ?_
                exact x_iret2 C R 77 dX9_ahead_77
              · refine x_iconst C 72 dX9_ahead_72 ki_1 ?_
                refine x_goto C 73 77 dX9_ahead_73 (by decide) ?_
                exact x_iret2 C R 77 dX9_ahead_77
            · refine x_bipush C 56 dX9_ahead_56 kb_m2 ?_
              exact x_iret2 C R 58 dX9_ahead_58
        · refine x_iconst C 29 dX9_ahead_29 ki_m1 ?_
          exact x_iret2 C R 30 dX9_ahead_30
def M_X9_clash_L21 (σ : Wd) (v2 : Int32) : Option ((Int32) ⊕ ((Unit) ⊕ (Int32 × Wd))) :=
  if (gI σ 0 45) ≤ v2 then (some (.inr (.inl ()))) else (chk (ib v2 60) (if (gI σ 30 (ix v2)) ≤ 0 then (lt (v2 + (1 : Int32)) fun v2_45 => some (.inl v2_45)) else (chk (ib v2 60) (some (.inr (.inr ((gI σ 27 (ix v2)), σ)))))))
def M_X9_clash (σ : Wd) (v1 : Int32) : Option (Int32 × Wd) :=
  bnd1 (M_X9_isCopy σ v1) fun r2 => if r2 ≠ 0 then (bnd1 (M_X9_copiesNow σ) fun s_11 => bnd1 (M_X9_doesAll s_11 v1) fun s_16 => bnd1 (iter (fun s : Int32 => M_X9_clash_L21 s_16 s) FU (0 : Int32)) (sx (un0 (some ((-2 : Int32), s_16))) (fun q => some q))) else (some ((-1 : Int32), σ))
set_option maxRecDepth 100000 in
set_option maxHeartbeats 4000000 in
theorem c_X9_clash (V : Vt) (l : Launch) (σ : Wd) (v1 : Int32) {r : Int32} {σ2 : Wd} (h : M_X9_clash σ v1 = some (r, σ2)) : Ct l (Zm V) yX9_clash cX9_clash 3 (some .int) 5 121 [.ref (zA (Zm V) 0), .int v1] σ (some (.int r)) σ2 := by
  refine Ct_intro (own := RX9) zm_ok (by decide +kernel) rfl (Nat.le_of_ble_eq_true rfl) [(0, .ref (zA (Zm V) 0)), (1, .int v1)] rfl (fun K C R hKl hnL => ?_)
  have hN := nl_of hnL
  subst hKl
  refine Y_end h ?_
  unfold M_X9_clash
  refine x_aload_n C 0 0 dX9_clash_0 rfl ?_
  refine x_iload_n C 1 1 dX9_clash_1 rfl ?_
  refine Y_bnd1 (fun r2 h2 => ?_)
  refine x_callVi C 2 [.int v1] [] rfl tw_1575 mv_X9_isCopy (Nat.le_of_ble_eq_true rfl) (Nat.le_of_ble_eq_true rfl) (Nat.le_of_ble_eq_true rfl) (Nat.le_of_ble_eq_true rfl) (km_0 V _) rfl dX9_clash_2 (c_X9_isCopy V _ _ _ h2) ?_
  refine x_if_ne C 5 10 dX9_clash_5 (by decide) (fun _ => ?_) (fun _ => ?_)
  · refine x_aload_n C 10 0 dX9_clash_10 rfl ?_
    refine Y_bnd1 (fun s_11 h11 => ?_)
    refine x_callVv C 11 [] [] rfl tw_1579 mv_X9_copiesNow (Nat.le_of_ble_eq_true rfl) (Nat.le_of_ble_eq_true rfl) (Nat.le_of_ble_eq_true rfl) (Nat.le_of_ble_eq_true rfl) (km_0 V _) rfl dX9_clash_11 (c_X9_copiesNow V _ _  h11) ?_
    refine x_aload_n C 14 0 dX9_clash_14 rfl ?_
    refine x_iload_n C 15 1 dX9_clash_15 rfl ?_
    refine Y_bnd1 (fun s_16 h16 => ?_)
    refine x_callVv C 16 [.int v1] [] rfl tw_1671 mv_X9_doesAll (Nat.le_of_ble_eq_true rfl) (Nat.le_of_ble_eq_true rfl) (Nat.le_of_ble_eq_true rfl) (Nat.le_of_ble_eq_true rfl) (km_0 V _) rfl dX9_clash_16 (c_X9_doesAll V _ _ _ h16) ?_
    refine x_iconst C 19 dX9_clash_19 ki_0 ?_
    refine x_istore_n C 20 (L' := [(2, .int (0 : Int32)), (0, .ref (zA (Zm V) 0)), (1, .int v1)]) dX9_clash_20 rfl (hN _ (Nat.le_of_ble_eq_true rfl)) rfl ?_
    refine Y_sub [1, 0] rfl ?_
    refine x_loop 21 (fun s : Int32 => s_16) (fun s : Int32 => [(0, .ref (zA (Zm V) 0)), (2, .int s)]) (fun E21 hb21 hx21 s => ?_) FU (0 : Int32)
    obtain ⟨v2_21, rfl⟩ : ∃ z, z = s := ⟨s, rfl⟩
    show Y K (Zm V) (M_X9_clash_L21 s_16 v2_21) E21 s_16 21 [(0, .ref (zA (Zm V) 0)), (2, .int v2_21)] []
    unfold M_X9_clash_L21
    refine x_iload_n C 21 1 dX9_clash_21 rfl ?_
    refine x_aload_n C 22 0 dX9_clash_22 rfl ?_
    refine fg_logMany C 23 dX9_clash_23 ?_
    refine x_icmp_ge C 26 51 dX9_clash_26 (by decide) (fun _ => ?_) (fun _ => ?_)
    · refine x_exl0 hx21 ?_
      refine x_bipush C 51 dX9_clash_51 kb_m2 ?_
      exact x_iret2 C R 53 dX9_clash_53
    · refine x_aload_n C 29 0 dX9_clash_29 rfl ?_
      refine fg_outAt C 30 dX9_clash_30 ?_
      refine x_iload_n C 33 1 dX9_clash_33 rfl ?_
      refine x_iald C 34 (Nat.le_of_ble_eq_true rfl) (km_30 V _) dX9_clash_34 (fun _ => ?_)
      refine x_if_le C 35 45 dX9_clash_35 (by decide) (fun _ => ?_) (fun _ => ?_)
      · refine x_iinct C 45 1 (1 : Int32) (fun v2_45 => [(2, .int v2_45), (0, .ref (zA (Zm V) 0))]) dX9_clash_45 rfl ki_1 (hN _ (Nat.le_of_ble_eq_true rfl)) (fun _ => rfl) (fun v2_45 => ?_)
        refine x_goto C 48 21 dX9_clash_48 (by decide) ?_
        refine Y_sub [1, 0] rfl ?_
        exact x_back v2_45 (hb21 v2_45)
      · refine x_aload_n C 38 0 dX9_clash_38 rfl ?_
        refine fg_logAt C 39 dX9_clash_39 ?_
        refine x_iload_n C 42 1 dX9_clash_42 rfl ?_
        refine x_iald C 43 (Nat.le_of_ble_eq_true rfl) (km_27 V _) dX9_clash_43 (fun _ => ?_)
        refine x_exr hx21 _ ?_
        exact x_iret2 C R 44 dX9_clash_44
  · refine x_iconst C 8 dX9_clash_8 ki_m1 ?_
    exact x_iret2 C R 9 dX9_clash_9
def M_X9_may_J59 (σ : Wd) (v1 : Int32) (v2 : Int32) (v3 : Int32) (v4 : Int32) : Option ((Int32 × Int32) ⊕ (Int32)) :=
  lt (v3 ||| ((1 : Int32) <<< (v4 &&& 31))) fun v3_65 => lt (v4 + (1 : Int32)) fun v4_66 => some (.inl (v3_65, v4_66))
def M_X9_may_L18 (σ : Wd) (v1 : Int32) (v2 : Int32) (v3 : Int32) (v4 : Int32) : Option ((Int32 × Int32) ⊕ (Int32)) :=
  chk (ib (gI σ 0 18) 2) (if (gI σ 10 (ix (gI σ 0 18))) ≤ v4 then (some (.inr v3)) else (if v2 = 0 then (bnd1 (M_X9_mayAsk σ v1 v4) fun r53 => if r53 = 0 then (lt (v4 + (1 : Int32)) fun v4_66 => some (.inl (v3, v4_66))) else (M_X9_may_J59 σ v1 v2 v3 v4)) else (bnd1 (M_X9_mayMake σ v1 v4) fun r40 => if r40 = 0 then (lt (v4 + (1 : Int32)) fun v4_66 => some (.inl (v3, v4_66))) else (M_X9_may_J59 σ v1 v2 v3 v4))))
def M_X9_may (σ : Wd) (v1 : Int32) (v2 : Int32) : Option (Int32 × Wd) :=
  bnd1 (M_X9_isSession v1) fun r1 => if r1 ≠ 0 then (bnd1 (M_X9_copiesNow σ) fun s_10 => bnd1 (iter (fun s : Int32 × Int32 => M_X9_may_L18 s_10 v1 v2 s.1 s.2) FU ((0 : Int32), (0 : Int32))) (un1 fun x3_18 => (some (x3_18, s_10)))) else (some ((-1 : Int32), σ))
set_option maxRecDepth 100000 in
set_option maxHeartbeats 4000000 in
theorem c_X9_may (V : Vt) (l : Launch) (σ : Wd) (v1 : Int32) (v2 : Int32) {r : Int32} {σ2 : Wd} (h : M_X9_may σ v1 v2 = some (r, σ2)) : Ct l (Zm V) yX9_may cX9_may 5 (some .int) 4 93 [.ref (zA (Zm V) 0), .int v1, .int v2] σ (some (.int r)) σ2 := by
  refine Ct_intro (own := RX9) zm_ok (by decide +kernel) rfl (Nat.le_of_ble_eq_true rfl) [(0, .ref (zA (Zm V) 0)), (1, .int v1), (2, .int v2)] rfl (fun K C R hKl hnL => ?_)
  have hN := nl_of hnL
  subst hKl
  refine Y_end h ?_
  unfold M_X9_may
  refine x_iload_n C 0 1 dX9_may_0 rfl ?_
  refine Y_bnd1 (fun r1 h1 => ?_)
  refine x_callSi C 1 [.int v1] [] rfl tw_1569 ms_X9_isSession (Nat.le_of_ble_eq_true rfl) (Nat.le_of_ble_eq_true rfl) (Nat.le_of_ble_eq_true rfl) dX9_may_1 (c_X9_isSession V _ _ _ h1) ?_
  refine x_if_ne C 4 9 dX9_may_4 (by decide) (fun _ => ?_) (fun _ => ?_)
  · refine x_aload_n C 9 0 dX9_may_9 rfl ?_
    refine Y_bnd1 (fun s_10 h10 => ?_)
    refine x_callVv C 10 [] [] rfl tw_1579 mv_X9_copiesNow (Nat.le_of_ble_eq_true rfl) (Nat.le_of_ble_eq_true rfl) (Nat.le_of_ble_eq_true rfl) (Nat.le_of_ble_eq_true rfl) (km_0 V _) rfl dX9_may_10 (c_X9_copiesNow V _ _  h10) ?_
    refine x_iconst C 13 dX9_may_13 ki_0 ?_
    refine x_istore_n C 14 (L' := [(3, .int (0 : Int32)), (0, .ref (zA (Zm V) 0)), (1, .int v1), (2, .int v2)]) dX9_may_14 rfl (hN _ (Nat.le_of_ble_eq_true rfl)) rfl ?_
    refine x_iconst C 15 dX9_may_15 ki_0 ?_
    refine x_istore C 16 (L' := [(4, .int (0 : Int32)), (3, .int (0 : Int32)), (0, .ref (zA (Zm V) 0)), (1, .int v1), (2, .int v2)]) dX9_may_16 (hN _ (Nat.le_of_ble_eq_true rfl)) rfl ?_
    refine Y_sub [2, 3, 4, 1, 0] rfl ?_
    refine x_loop 18 (fun s : Int32 × Int32 => s_10) (fun s : Int32 × Int32 => [(0, .ref (zA (Zm V) 0)), (1, .int v1), (2, .int v2), (3, .int s.1), (4, .int s.2)]) (fun E18 hb18 hx18 s => ?_) FU ((0 : Int32), (0 : Int32))
    obtain ⟨v3_18, v4_18⟩ := s
    show Y K (Zm V) (M_X9_may_L18 s_10 v1 v2 v3_18 v4_18) E18 s_10 18 [(0, .ref (zA (Zm V) 0)), (1, .int v1), (2, .int v2), (3, .int v3_18), (4, .int v4_18)] []
    unfold M_X9_may_L18
    refine x_iload C 18 4 dX9_may_18 rfl ?_
    refine x_aload_n C 20 0 dX9_may_20 rfl ?_
    refine fg_copies C 21 dX9_may_21 ?_
    refine x_aload_n C 24 0 dX9_may_24 rfl ?_
    refine fg_live C 25 dX9_may_25 ?_
    refine x_iald C 28 (Nat.le_of_ble_eq_true rfl) (km_10 V _) dX9_may_28 (fun _ => ?_)
    refine x_icmp_ge C 29 72 dX9_may_29 (by decide) (fun _ => ?_) (fun _ => ?_)
    · refine x_ex1 hx18 v3_18 ?_
      refine x_iload_n C 72 3 dX9_may_72 rfl ?_
      exact x_iret2 C R 73 dX9_may_73
    · refine x_iload_n C 32 2 dX9_may_32 rfl ?_
      have hJ59 : ∀ (v3_59 : Int32) (v4_59 : Int32), Y K (Zm V) (M_X9_may_J59 s_10 v1 v2 v3_59 v4_59) E18 s_10 59 [(0, .ref (zA (Zm V) 0)), (1, .int v1), (2, .int v2), (3, .int v3_59), (4, .int v4_59)] [] := by
        intro v3_59 v4_59
        unfold M_X9_may_J59
        refine x_iload_n C 59 3 dX9_may_59 rfl ?_
        refine x_iconst C 60 dX9_may_60 ki_1 ?_
        refine x_iload C 61 4 dX9_may_61 rfl ?_
        refine x_ishl C 63 dX9_may_63 ?_
        refine x_ior C 64 dX9_may_64 ?_
        refine x_istore_nt C 65 (fun v3_65 => [(3, .int v3_65), (0, .ref (zA (Zm V) 0)), (1, .int v1), (2, .int v2), (4, .int v4_59)]) dX9_may_65 rfl (hN _ (Nat.le_of_ble_eq_true rfl)) (fun _ => rfl) (fun v3_65 => ?_)
        refine x_iinct C 66 4 (1 : Int32) (fun v4_66 => [(4, .int v4_66), (3, .int v3_65), (0, .ref (zA (Zm V) 0)), (1, .int v1), (2, .int v2)]) dX9_may_66 rfl ki_1 (hN _ (Nat.le_of_ble_eq_true rfl)) (fun _ => rfl) (fun v4_66 => ?_)
        refine x_goto C 69 18 dX9_may_69 (by decide) ?_
        refine Y_sub [2, 3, 4, 1, 0] rfl ?_
        exact x_back (v3_65, v4_66) (hb18 (v3_65, v4_66))
      refine x_if_eq C 33 49 dX9_may_33 (by decide) (fun _ => ?_) (fun _ => ?_)
      · refine x_aload_n C 49 0 dX9_may_49 rfl ?_
        refine x_iload_n C 50 1 dX9_may_50 rfl ?_
        refine x_iload C 51 4 dX9_may_51 rfl ?_
        refine Y_bnd1 (fun r53 h53 => ?_)
        refine x_callVi C 53 [.int v1, .int v4_18] [] rfl tw_1667 mv_X9_mayAsk (Nat.le_of_ble_eq_true rfl) (Nat.le_of_ble_eq_true rfl) (Nat.le_of_ble_eq_true rfl) (Nat.le_of_ble_eq_true rfl) (km_0 V _) rfl dX9_may_53 (c_X9_mayAsk V _ _ _ _ h53) ?_
        refine x_if_eq C 56 66 dX9_may_56 (by decide) (fun _ => ?_) (fun _ => ?_)
        · refine x_iinct C 66 4 (1 : Int32) (fun v4_66 => [(4, .int v4_66), (0, .ref (zA (Zm V) 0)), (1, .int v1), (2, .int v2), (3, .int v3_18)]) dX9_may_66 rfl ki_1 (hN _ (Nat.le_of_ble_eq_true rfl)) (fun _ => rfl) (fun v4_66 => ?_)
          refine x_goto C 69 18 dX9_may_69 (by decide) ?_
          refine Y_sub [1, 2, 3, 4, 0] rfl ?_
          exact x_back (v3_18, v4_66) (hb18 (v3_18, v4_66))
        · exact hJ59 _ _
      · refine x_aload_n C 36 0 dX9_may_36 rfl ?_
        refine x_iload_n C 37 1 dX9_may_37 rfl ?_
        refine x_iload C 38 4 dX9_may_38 rfl ?_
        refine Y_bnd1 (fun r40 h40 => ?_)
        refine x_callVi C 40 [.int v1, .int v4_18] [] rfl tw_1595 mv_X9_mayMake (Nat.le_of_ble_eq_true rfl) (Nat.le_of_ble_eq_true rfl) (Nat.le_of_ble_eq_true rfl) (Nat.le_of_ble_eq_true rfl) (km_0 V _) rfl dX9_may_40 (c_X9_mayMake V _ _ _ _ h40) ?_
        refine x_if_eq C 43 66 dX9_may_43 (by decide) (fun _ => ?_) (fun _ => ?_)
        · refine x_iinct C 66 4 (1 : Int32) (fun v4_66 => [(4, .int v4_66), (0, .ref (zA (Zm V) 0)), (1, .int v1), (2, .int v2), (3, .int v3_18)]) dX9_may_66 rfl ki_1 (hN _ (Nat.le_of_ble_eq_true rfl)) (fun _ => rfl) (fun v4_66 => ?_)
          refine x_goto C 69 18 dX9_may_69 (by decide) ?_
          refine Y_sub [1, 2, 3, 4, 0] rfl ?_
          exact x_back (v3_18, v4_66) (hb18 (v3_18, v4_66))
        · refine x_goto C 46 59 dX9_may_46 (by decide) ?_
          exact hJ59 _ _
  · refine x_iconst C 7 dX9_may_7 ki_m1 ?_
    exact x_iret2 C R 8 dX9_may_8
def M_X9_bits_L4 (v0 : Int32) (v1 : Int32) (v2 : Int32) : Option ((Int32 × Int32) ⊕ (Int32)) :=
  if (5 : Int32) ≤ v2 then (some (.inr v1)) else (lt (v1 + ((v0 >>> (v2 &&& 31)) &&& (1 : Int32))) fun v1_16 => lt (v2 + (1 : Int32)) fun v2_17 => some (.inl (v1_16, v2_17)))
def M_X9_bits (v0 : Int32) : Option Int32 :=
  bnd1 (iter (fun s : Int32 × Int32 => M_X9_bits_L4 v0 s.1 s.2) FU ((0 : Int32), (0 : Int32))) (un1 fun x1_4 => (some x1_4))
set_option maxRecDepth 100000 in
set_option maxHeartbeats 4000000 in
theorem c_X9_bits (V : Vt) (l : Launch) (σ : Wd) (v0 : Int32) {r : Int32} (h : M_X9_bits v0 = some r) : Ct l (Zm V) yX9_bits cX9_bits 3 (some .int) 0 0 [.int v0] σ (some (.int r)) σ := by
  refine Ct_intro (own := RX9) zm_ok (by decide +kernel) rfl (Nat.le_of_ble_eq_true rfl) [(0, .int v0)] rfl (fun K C R hKl hnL => ?_)
  have hN := nl_of hnL
  subst hKl
  refine Y_end h ?_
  unfold M_X9_bits
  refine x_iconst C 0 dX9_bits_0 ki_0 ?_
  refine x_istore_n C 1 (L' := [(1, .int (0 : Int32)), (0, .int v0)]) dX9_bits_1 rfl (hN _ (Nat.le_of_ble_eq_true rfl)) rfl ?_
  refine x_iconst C 2 dX9_bits_2 ki_0 ?_
  refine x_istore_n C 3 (L' := [(2, .int (0 : Int32)), (1, .int (0 : Int32)), (0, .int v0)]) dX9_bits_3 rfl (hN _ (Nat.le_of_ble_eq_true rfl)) rfl ?_
  refine Y_sub [2, 1, 0] rfl ?_
  refine x_loop 4 (fun s : Int32 × Int32 => σ) (fun s : Int32 × Int32 => [(0, .int v0), (1, .int s.1), (2, .int s.2)]) (fun E4 hb4 hx4 s => ?_) FU ((0 : Int32), (0 : Int32))
  obtain ⟨v1_4, v2_4⟩ := s
  show Y K (Zm V) (M_X9_bits_L4 v0 v1_4 v2_4) E4 σ 4 [(0, .int v0), (1, .int v1_4), (2, .int v2_4)] []
  unfold M_X9_bits_L4
  refine x_iload_n C 4 2 dX9_bits_4 rfl ?_
  refine x_iconst C 5 dX9_bits_5 ki_5 ?_
  refine x_icmp_ge C 6 23 dX9_bits_6 (by decide) (fun _ => ?_) (fun _ => ?_)
  · refine x_ex1 hx4 v1_4 ?_
    refine x_iload_n C 23 1 dX9_bits_23 rfl ?_
    exact x_iret1 C R 24 dX9_bits_24
  · refine x_iload_n C 9 1 dX9_bits_9 rfl ?_
    refine x_iload_n C 10 0 dX9_bits_10 rfl ?_
    refine x_iload_n C 11 2 dX9_bits_11 rfl ?_
    refine x_ishr C 12 dX9_bits_12 ?_
    refine x_iconst C 13 dX9_bits_13 ki_1 ?_
    refine x_iand C 14 dX9_bits_14 ?_
    refine x_iadd C 15 dX9_bits_15 ?_
    refine x_istore_nt C 16 (fun v1_16 => [(1, .int v1_16), (0, .int v0), (2, .int v2_4)]) dX9_bits_16 rfl (hN _ (Nat.le_of_ble_eq_true rfl)) (fun _ => rfl) (fun v1_16 => ?_)
    refine x_iinct C 17 2 (1 : Int32) (fun v2_17 => [(2, .int v2_17), (1, .int v1_16), (0, .int v0)]) dX9_bits_17 rfl ki_1 (hN _ (Nat.le_of_ble_eq_true rfl)) (fun _ => rfl) (fun v2_17 => ?_)
    refine x_goto C 20 4 dX9_bits_20 (by decide) ?_
    refine Y_sub [2, 1, 0] rfl ?_
    exact x_back (v1_16, v2_17) (hb4 (v1_16, v2_17))
def M_X9_isBrought_L30 (σ : Wd) (v1 : Int32) (v2 : Int32) (v3 : Int32) (v4 : Int32) (v5 : Int32) : Option ((Int32 × Int32 × Int32) ⊕ (Int32 × Int32)) :=
  chk (ib (gI σ 0 18) 2) (if (gI σ 10 (ix (gI σ 0 18))) ≤ v5 then (some (.inr (v3, v4))) else (bnd1 (M_X9_doesHave σ v5 v2) fun r48 => if r48 ≠ 0 then (if ((v1 >>> (v5 &&& 31)) &&& (1 : Int32)) ≠ (1 : Int32) then (lt (v5 + (1 : Int32)) fun v5_72 => some (.inl (v3, (1 : Int32), v5_72))) else (lt (v5 + (1 : Int32)) fun v5_72 => some (.inl ((1 : Int32), (1 : Int32), v5_72)))) else (lt (v5 + (1 : Int32)) fun v5_72 => some (.inl (v3, v4, v5_72)))))
def M_X9_isBrought_L2 (σ : Wd) (v1 : Int32) (v2 : Int32) : Option ((Int32) ⊕ ((Unit) ⊕ Int32)) :=
  chk (ib (0 : Int32) 770) (if (gI σ 26 (ix (0 : Int32))) ≤ v2 then (some (.inr (.inl ()))) else (chk (ib (2 : Int32) 770) (bnd1 (M_X9_doesHave σ (gI σ 26 (ix (2 : Int32))) v2) fun r20 => bnd1 (iter (fun s : Int32 × Int32 × Int32 => M_X9_isBrought_L30 σ v1 v2 s.1 s.2.1 s.2.2) FU (r20, r20, (0 : Int32))) (un2 fun x3_30 x4_30 => (if x4_30 = 0 then (lt (v2 + (1 : Int32)) fun v2_89 => some (.inl v2_89)) else (if x3_30 ≠ 0 then (lt (v2 + (1 : Int32)) fun v2_89 => some (.inl v2_89)) else (some (.inr (.inr (0 : Int32))))))))))
def M_X9_isBrought (σ : Wd) (v1 : Int32) : Option Int32 :=
  bnd1 (iter (fun s : Int32 => M_X9_isBrought_L2 σ v1 s) FU (0 : Int32)) (sx (un0 (some (1 : Int32))) (fun q => some q))
set_option maxRecDepth 100000 in
set_option maxHeartbeats 4000000 in
theorem c_X9_isBrought (V : Vt) (l : Launch) (σ : Wd) (v1 : Int32) {r : Int32} (h : M_X9_isBrought σ v1 = some r) : Ct l (Zm V) yX9_isBrought cX9_isBrought 6 (some .boolean) 1 22 [.ref (zA (Zm V) 0), .int v1] σ (some (.int r)) σ := by
  refine Ct_intro (own := RX9) zm_ok (by decide +kernel) rfl (Nat.le_of_ble_eq_true rfl) [(0, .ref (zA (Zm V) 0)), (1, .int v1)] rfl (fun K C R hKl hnL => ?_)
  have hN := nl_of hnL
  subst hKl
  refine Y_end h ?_
  unfold M_X9_isBrought
  refine x_iconst C 0 dX9_isBrought_0 ki_0 ?_
  refine x_istore_n C 1 (L' := [(2, .int (0 : Int32)), (0, .ref (zA (Zm V) 0)), (1, .int v1)]) dX9_isBrought_1 rfl (hN _ (Nat.le_of_ble_eq_true rfl)) rfl ?_
  refine Y_sub [1, 2, 0] rfl ?_
  refine x_loop 2 (fun s : Int32 => σ) (fun s : Int32 => [(0, .ref (zA (Zm V) 0)), (1, .int v1), (2, .int s)]) (fun E2 hb2 hx2 s => ?_) FU (0 : Int32)
  obtain ⟨v2_2, rfl⟩ : ∃ z, z = s := ⟨s, rfl⟩
  show Y K (Zm V) (M_X9_isBrought_L2 σ v1 v2_2) E2 σ 2 [(0, .ref (zA (Zm V) 0)), (1, .int v1), (2, .int v2_2)] []
  unfold M_X9_isBrought_L2
  refine x_iload_n C 2 2 dX9_isBrought_2 rfl ?_
  refine x_aload_n C 3 0 dX9_isBrought_3 rfl ?_
  refine fg_row C 4 dX9_isBrought_4 ?_
  refine x_iconst C 7 dX9_isBrought_7 ki_0 ?_
  refine x_iald C 8 (Nat.le_of_ble_eq_true rfl) (km_26 V _) dX9_isBrought_8 (fun _ => ?_)
  refine x_icmp_ge C 9 95 dX9_isBrought_9 (by decide) (fun _ => ?_) (fun _ => ?_)
  · refine x_exl0 hx2 ?_
    refine x_iconst C 95 dX9_isBrought_95 ki_1 ?_
    exact x_zret1 C R 96 (zb_nar (r := (1 : Int32)) (Or.inr rfl)) dX9_isBrought_96
  · refine x_aload_n C 12 0 dX9_isBrought_12 rfl ?_
    refine x_aload_n C 13 0 dX9_isBrought_13 rfl ?_
    refine fg_row C 14 dX9_isBrought_14 ?_
    refine x_iconst C 17 dX9_isBrought_17 ki_2 ?_
    refine x_iald C 18 (Nat.le_of_ble_eq_true rfl) (km_26 V _) dX9_isBrought_18 (fun _ => ?_)
    refine x_iload_n C 19 2 dX9_isBrought_19 rfl ?_
    refine Y_bnd1 (fun r20 h20 => ?_)
    refine x_callVi C 20 [.int (gI σ 26 (ix (2 : Int32))), .int v2_2] [] rfl tw_1607 mv_X9_doesHave (Nat.le_of_ble_eq_true rfl) (Nat.le_of_ble_eq_true rfl) (Nat.le_of_ble_eq_true rfl) (Nat.le_of_ble_eq_true rfl) (km_0 V _) rfl dX9_isBrought_20 (c_X9_doesHave V _ _ _ _ h20) ?_
    refine x_istore_n C 23 (L' := [(3, .int r20), (0, .ref (zA (Zm V) 0)), (1, .int v1), (2, .int v2_2)]) dX9_isBrought_23 rfl (hN _ (Nat.le_of_ble_eq_true rfl)) rfl ?_
    refine x_iload_n C 24 0 dX9_isBrought_24 rfl ?_
    refine x_istore C 25 (L' := [(4, .int r20), (3, .int r20), (0, .ref (zA (Zm V) 0)), (1, .int v1), (2, .int v2_2)]) dX9_isBrought_25 (hN _ (Nat.le_of_ble_eq_true rfl)) rfl ?_
    refine x_iconst C 27 dX9_isBrought_27 ki_0 ?_
    refine x_istore C 28 (L' := [(5, .int (0 : Int32)), (4, .int r20), (3, .int r20), (0, .ref (zA (Zm V) 0)), (1, .int v1), (2, .int v2_2)]) dX9_isBrought_28 (hN _ (Nat.le_of_ble_eq_true rfl)) rfl ?_
    refine Y_sub [3, 4, 5, 2, 1, 0] rfl ?_
    refine x_loop 30 (fun s : Int32 × Int32 × Int32 => σ) (fun s : Int32 × Int32 × Int32 => [(0, .ref (zA (Zm V) 0)), (1, .int v1), (2, .int v2_2), (3, .int s.1), (4, .int s.2.1), (5, .int s.2.2)]) (fun E30 hb30 hx30 s => ?_) FU (r20, r20, (0 : Int32))
    obtain ⟨v3_30, v4_30, v5_30⟩ := s
    show Y K (Zm V) (M_X9_isBrought_L30 σ v1 v2_2 v3_30 v4_30 v5_30) E30 σ 30 [(0, .ref (zA (Zm V) 0)), (1, .int v1), (2, .int v2_2), (3, .int v3_30), (4, .int v4_30), (5, .int v5_30)] []
    unfold M_X9_isBrought_L30
    refine x_iload C 30 5 dX9_isBrought_30 rfl ?_
    refine x_aload_n C 32 0 dX9_isBrought_32 rfl ?_
    refine fg_copies C 33 dX9_isBrought_33 ?_
    refine x_aload_n C 36 0 dX9_isBrought_36 rfl ?_
    refine fg_live C 37 dX9_isBrought_37 ?_
    refine x_iald C 40 (Nat.le_of_ble_eq_true rfl) (km_10 V _) dX9_isBrought_40 (fun _ => ?_)
    refine x_icmp_ge C 41 78 dX9_isBrought_41 (by decide) (fun _ => ?_) (fun _ => ?_)
    · refine x_ex2 hx30 v3_30 v4_30 ?_
      refine x_iload C 78 4 dX9_isBrought_78 rfl ?_
      refine x_if_eq C 80 89 dX9_isBrought_80 (by decide) (fun _ => ?_) (fun _ => ?_)
      · refine x_iinct C 89 2 (1 : Int32) (fun v2_89 => [(2, .int v2_89), (0, .ref (zA (Zm V) 0)), (1, .int v1), (3, .int v3_30), (4, .int v4_30), (5, .int v5_30)]) dX9_isBrought_89 rfl ki_1 (hN _ (Nat.le_of_ble_eq_true rfl)) (fun _ => rfl) (fun v2_89 => ?_)
        refine x_goto C 92 2 dX9_isBrought_92 (by decide) ?_
        refine Y_sub [1, 2, 0] rfl ?_
        exact x_back v2_89 (hb2 v2_89)
      · refine x_iload_n C 83 3 dX9_isBrought_83 rfl ?_
        refine x_if_ne C 84 89 dX9_isBrought_84 (by decide) (fun _ => ?_) (fun _ => ?_)
        · refine x_iinct C 89 2 (1 : Int32) (fun v2_89 => [(2, .int v2_89), (0, .ref (zA (Zm V) 0)), (1, .int v1), (3, .int v3_30), (4, .int v4_30), (5, .int v5_30)]) dX9_isBrought_89 rfl ki_1 (hN _ (Nat.le_of_ble_eq_true rfl)) (fun _ => rfl) (fun v2_89 => ?_)
          refine x_goto C 92 2 dX9_isBrought_92 (by decide) ?_
          refine Y_sub [1, 2, 0] rfl ?_
          exact x_back v2_89 (hb2 v2_89)
        · refine x_iconst C 87 dX9_isBrought_87 ki_0 ?_
          refine x_exr hx2 _ ?_
          exact x_zret1 C R 88 (zb_nar (r := (0 : Int32)) (Or.inl rfl)) dX9_isBrought_88
    · refine x_aload_n C 44 0 dX9_isBrought_44 rfl ?_
      refine x_iload C 45 5 dX9_isBrought_45 rfl ?_
      refine x_iload_n C 47 2 dX9_isBrought_47 rfl ?_
      refine Y_bnd1 (fun r48 h48 => ?_)
      refine x_callVi C 48 [.int v5_30, .int v2_2] [] rfl tw_1607 mv_X9_doesHave (Nat.le_of_ble_eq_true rfl) (Nat.le_of_ble_eq_true rfl) (Nat.le_of_ble_eq_true rfl) (Nat.le_of_ble_eq_true rfl) (km_0 V _) rfl dX9_isBrought_48 (c_X9_doesHave V _ _ _ _ h48) ?_
      refine x_if_ne C 51 57 dX9_isBrought_51 (by decide) (fun _ => ?_) (fun _ => ?_)
      · refine x_iconst C 57 dX9_isBrought_57 ki_1 ?_
        refine x_istore C 58 (L' := [(4, .int (1 : Int32)), (0, .ref (zA (Zm V) 0)), (1, .int v1), (2, .int v2_2), (3, .int v3_30), (5, .int v5_30)]) dX9_isBrought_58 (hN _ (Nat.le_of_ble_eq_true rfl)) rfl ?_
        refine x_iload_n C 60 2 dX9_isBrought_60 rfl ?_
        refine x_iload C 61 5 dX9_isBrought_61 rfl ?_
        refine x_ishr C 63 dX9_isBrought_63 ?_
        refine x_iconst C 64 dX9_isBrought_64 ki_1 ?_
        refine x_iand C 65 dX9_isBrought_65 ?_
        refine x_iconst C 66 dX9_isBrought_66 ki_1 ?_
        refine x_icmp_ne C 67 72 dX9_isBrought_67 (by decide) (fun _ => ?_) (fun _ => ?_)
        · refine x_iinct C 72 5 (1 : Int32) (fun v5_72 => [(5, .int v5_72), (4, .int (1 : Int32)), (0, .ref (zA (Zm V) 0)), (1, .int v1), (2, .int v2_2), (3, .int v3_30)]) dX9_isBrought_72 rfl ki_1 (hN _ (Nat.le_of_ble_eq_true rfl)) (fun _ => rfl) (fun v5_72 => ?_)
          refine x_goto C 75 30 dX9_isBrought_75 (by decide) ?_
          refine Y_sub [2, 3, 4, 5, 1, 0] rfl ?_
          exact x_back (v3_30, (1 : Int32), v5_72) (hb30 (v3_30, (1 : Int32), v5_72))
        · refine x_iconst C 70 dX9_isBrought_70 ki_1 ?_
          refine x_istore_n C 71 (L' := [(3, .int (1 : Int32)), (4, .int (1 : Int32)), (0, .ref (zA (Zm V) 0)), (1, .int v1), (2, .int v2_2), (5, .int v5_30)]) dX9_isBrought_71 rfl (hN _ (Nat.le_of_ble_eq_true rfl)) rfl ?_
          refine x_iinct C 72 5 (1 : Int32) (fun v5_72 => [(5, .int v5_72), (3, .int (1 : Int32)), (4, .int (1 : Int32)), (0, .ref (zA (Zm V) 0)), (1, .int v1), (2, .int v2_2)]) dX9_isBrought_72 rfl ki_1 (hN _ (Nat.le_of_ble_eq_true rfl)) (fun _ => rfl) (fun v5_72 => ?_)
          refine x_goto C 75 30 dX9_isBrought_75 (by decide) ?_
          refine Y_sub [3, 4, 5, 1, 2, 0] rfl ?_
          exact x_back ((1 : Int32), (1 : Int32), v5_72) (hb30 ((1 : Int32), (1 : Int32), v5_72))
      · refine x_goto C 54 72 dX9_isBrought_54 (by decide) ?_
        refine x_iinct C 72 5 (1 : Int32) (fun v5_72 => [(5, .int v5_72), (0, .ref (zA (Zm V) 0)), (1, .int v1), (2, .int v2_2), (3, .int v3_30), (4, .int v4_30)]) dX9_isBrought_72 rfl ki_1 (hN _ (Nat.le_of_ble_eq_true rfl)) (fun _ => rfl) (fun v5_72 => ?_)
        refine x_goto C 75 30 dX9_isBrought_75 (by decide) ?_
        refine Y_sub [1, 2, 3, 4, 5, 0] rfl ?_
        exact x_back (v3_30, v4_30, v5_72) (hb30 (v3_30, v4_30, v5_72))
def M_X9_bringers_J59 (σ : Wd) (v2 : Int32) : Option ((Int32 × Int32) ⊕ (Int32)) :=
  lt (v2 + (1 : Int32)) fun v2_61 => some (.inl (v2, v2_61))
def M_X9_bringers_L4 (σ : Wd) (v1 : Int32) (v2 : Int32) : Option ((Int32 × Int32) ⊕ (Int32)) :=
  chk (ib (gI σ 0 18) 2) (if ((1 : Int32) <<< ((gI σ 10 (ix (gI σ 0 18))) &&& 31)) ≤ v2 then (some (.inr v1)) else (chk (ib (2 : Int32) 770) (if ((v2 >>> ((gI σ 26 (ix (2 : Int32))) &&& 31)) &&& (1 : Int32)) = (1 : Int32) then (lt (v2 + (1 : Int32)) fun v2_61 => some (.inl (v1, v2_61))) else (bnd1 (M_X9_isBrought σ v2) fun r35 => if r35 ≠ 0 then (if v1 < 0 then (M_X9_bringers_J59 σ v2) else (bnd1 (M_X9_bits v2) fun r49 => bnd1 (M_X9_bits v1) fun r53 => if r53 ≤ r49 then (lt (v2 + (1 : Int32)) fun v2_61 => some (.inl (v1, v2_61))) else (M_X9_bringers_J59 σ v2))) else (lt (v2 + (1 : Int32)) fun v2_61 => some (.inl (v1, v2_61)))))))
def M_X9_bringers (σ : Wd) : Option Int32 :=
  bnd1 (iter (fun s : Int32 × Int32 => M_X9_bringers_L4 σ s.1 s.2) FU ((-1 : Int32), (0 : Int32))) (un1 fun x1_4 => (some x1_4))
set_option maxRecDepth 100000 in
set_option maxHeartbeats 4000000 in
theorem c_X9_bringers (V : Vt) (l : Launch) (σ : Wd) {r : Int32} (h : M_X9_bringers σ = some r) : Ct l (Zm V) yX9_bringers cX9_bringers 3 (some .int) 2 47 [.ref (zA (Zm V) 0)] σ (some (.int r)) σ := by
  refine Ct_intro (own := RX9) zm_ok (by decide +kernel) rfl (Nat.le_of_ble_eq_true rfl) [(0, .ref (zA (Zm V) 0))] rfl (fun K C R hKl hnL => ?_)
  have hN := nl_of hnL
  subst hKl
  refine Y_end h ?_
  unfold M_X9_bringers
  refine x_iconst C 0 dX9_bringers_0 ki_m1 ?_
  refine x_istore_n C 1 (L' := [(1, .int (-1 : Int32)), (0, .ref (zA (Zm V) 0))]) dX9_bringers_1 rfl (hN _ (Nat.le_of_ble_eq_true rfl)) rfl ?_
  refine x_iconst C 2 dX9_bringers_2 ki_0 ?_
  refine x_istore_n C 3 (L' := [(2, .int (0 : Int32)), (1, .int (-1 : Int32)), (0, .ref (zA (Zm V) 0))]) dX9_bringers_3 rfl (hN _ (Nat.le_of_ble_eq_true rfl)) rfl ?_
  refine Y_sub [2, 1, 0] rfl ?_
  refine x_loop 4 (fun s : Int32 × Int32 => σ) (fun s : Int32 × Int32 => [(0, .ref (zA (Zm V) 0)), (1, .int s.1), (2, .int s.2)]) (fun E4 hb4 hx4 s => ?_) FU ((-1 : Int32), (0 : Int32))
  obtain ⟨v1_4, v2_4⟩ := s
  show Y K (Zm V) (M_X9_bringers_L4 σ v1_4 v2_4) E4 σ 4 [(0, .ref (zA (Zm V) 0)), (1, .int v1_4), (2, .int v2_4)] []
  unfold M_X9_bringers_L4
  refine x_iload_n C 4 2 dX9_bringers_4 rfl ?_
  refine x_iconst C 5 dX9_bringers_5 ki_1 ?_
  refine x_aload_n C 6 0 dX9_bringers_6 rfl ?_
  refine fg_copies C 7 dX9_bringers_7 ?_
  refine x_aload_n C 10 0 dX9_bringers_10 rfl ?_
  refine fg_live C 11 dX9_bringers_11 ?_
  refine x_iald C 14 (Nat.le_of_ble_eq_true rfl) (km_10 V _) dX9_bringers_14 (fun _ => ?_)
  refine x_ishl C 15 dX9_bringers_15 ?_
  refine x_icmp_ge C 16 67 dX9_bringers_16 (by decide) (fun _ => ?_) (fun _ => ?_)
  · refine x_ex1 hx4 v1_4 ?_
    refine x_iload_n C 67 1 dX9_bringers_67 rfl ?_
    exact x_iret1 C R 68 dX9_bringers_68
  · refine x_iload_n C 19 2 dX9_bringers_19 rfl ?_
    refine x_aload_n C 20 0 dX9_bringers_20 rfl ?_
    refine fg_row C 21 dX9_bringers_21 ?_
    refine x_iconst C 24 dX9_bringers_24 ki_2 ?_
    refine x_iald C 25 (Nat.le_of_ble_eq_true rfl) (km_26 V _) dX9_bringers_25 (fun _ => ?_)
    refine x_ishr C 26 dX9_bringers_26 ?_
    refine x_iconst C 27 dX9_bringers_27 ki_1 ?_
    refine x_iand C 28 dX9_bringers_28 ?_
    refine x_iconst C 29 dX9_bringers_29 ki_1 ?_
    refine x_icmp_eq C 30 61 dX9_bringers_30 (by decide) (fun _ => ?_) (fun _ => ?_)
    · refine x_iinct C 61 2 (1 : Int32) (fun v2_61 => [(2, .int v2_61), (0, .ref (zA (Zm V) 0)), (1, .int v1_4)]) dX9_bringers_61 rfl ki_1 (hN _ (Nat.le_of_ble_eq_true rfl)) (fun _ => rfl) (fun v2_61 => ?_)
      refine x_goto C 64 4 dX9_bringers_64 (by decide) ?_
      refine Y_sub [1, 2, 0] rfl ?_
      exact x_back (v1_4, v2_61) (hb4 (v1_4, v2_61))
    · refine x_aload_n C 33 0 dX9_bringers_33 rfl ?_
      refine x_iload_n C 34 2 dX9_bringers_34 rfl ?_
      refine Y_bnd1 (fun r35 h35 => ?_)
      refine x_callVi C 35 [.int v2_4] [] rfl tw_1878 mv_X9_isBrought (Nat.le_of_ble_eq_true rfl) (Nat.le_of_ble_eq_true rfl) (Nat.le_of_ble_eq_true rfl) (Nat.le_of_ble_eq_true rfl) (km_0 V _) rfl dX9_bringers_35 (c_X9_isBrought V _ _ _ h35) ?_
      refine x_if_ne C 38 44 dX9_bringers_38 (by decide) (fun _ => ?_) (fun _ => ?_)
      · refine x_iload_n C 44 1 dX9_bringers_44 rfl ?_
        have hJ59 : ∀ (v2_59 : Int32), Y K (Zm V) (M_X9_bringers_J59 σ v2_59) E4 σ 59 [(0, .ref (zA (Zm V) 0)), (2, .int v2_59)] [] := by
          intro v2_59
          unfold M_X9_bringers_J59
          refine x_iload_n C 59 1 dX9_bringers_59 rfl ?_
          refine x_istore_n C 60 (L' := [(1, .int v2_59), (0, .ref (zA (Zm V) 0)), (2, .int v2_59)]) dX9_bringers_60 rfl (hN _ (Nat.le_of_ble_eq_true rfl)) rfl ?_
          refine x_iinct C 61 2 (1 : Int32) (fun v2_61 => [(2, .int v2_61), (1, .int v2_59), (0, .ref (zA (Zm V) 0))]) dX9_bringers_61 rfl ki_1 (hN _ (Nat.le_of_ble_eq_true rfl)) (fun _ => rfl) (fun v2_61 => ?_)
          refine x_goto C 64 4 dX9_bringers_64 (by decide) ?_
          refine Y_sub [2, 1, 0] rfl ?_
          exact x_back (v2_59, v2_61) (hb4 (v2_59, v2_61))
        refine x_if_lt C 45 59 dX9_bringers_45 (by decide) (fun _ => ?_) (fun _ => ?_)
        · refine Y_sub [0, 2] rfl ?_
          exact hJ59 _
        · refine x_iload_n C 48 2 dX9_bringers_48 rfl ?_
          refine Y_bnd1 (fun r49 h49 => ?_)
          refine x_callSi C 49 [.int v2_4] [] rfl tw_1882 ms_X9_bits (Nat.le_of_ble_eq_true rfl) (Nat.le_of_ble_eq_true rfl) (Nat.le_of_ble_eq_true rfl) dX9_bringers_49 (c_X9_bits V _ _ _ h49) ?_
          refine x_iload_n C 52 1 dX9_bringers_52 rfl ?_
          refine Y_bnd1 (fun r53 h53 => ?_)
          refine x_callSi C 53 [.int v1_4] [.int r49] rfl tw_1882 ms_X9_bits (Nat.le_of_ble_eq_true rfl) (Nat.le_of_ble_eq_true rfl) (Nat.le_of_ble_eq_true rfl) dX9_bringers_53 (c_X9_bits V _ _ _ h53) ?_
          refine x_icmp_ge C 56 61 dX9_bringers_56 (by decide) (fun _ => ?_) (fun _ => ?_)
          · refine x_iinct C 61 2 (1 : Int32) (fun v2_61 => [(2, .int v2_61), (0, .ref (zA (Zm V) 0)), (1, .int v1_4)]) dX9_bringers_61 rfl ki_1 (hN _ (Nat.le_of_ble_eq_true rfl)) (fun _ => rfl) (fun v2_61 => ?_)
            refine x_goto C 64 4 dX9_bringers_64 (by decide) ?_
            refine Y_sub [1, 2, 0] rfl ?_
            exact x_back (v1_4, v2_61) (hb4 (v1_4, v2_61))
          · refine Y_sub [0, 2] rfl ?_
            exact hJ59 _
      · refine x_goto C 41 61 dX9_bringers_41 (by decide) ?_
        refine x_iinct C 61 2 (1 : Int32) (fun v2_61 => [(2, .int v2_61), (0, .ref (zA (Zm V) 0)), (1, .int v1_4)]) dX9_bringers_61 rfl ki_1 (hN _ (Nat.le_of_ble_eq_true rfl)) (fun _ => rfl) (fun v2_61 => ?_)
        refine x_goto C 64 4 dX9_bringers_64 (by decide) ?_
        refine Y_sub [1, 2, 0] rfl ?_
        exact x_back (v1_4, v2_61) (hb4 (v1_4, v2_61))
def M_X9_plan_L30 (v1 : Int32) (v2 : Int32) (v3 : Int32) (v4 : Int32) (σ : Wd) : Option ((Int32 × Wd) ⊕ (Wd)) :=
  chk (ib (gI σ 0 18) 2) (if (gI σ 10 (ix (gI σ 0 18))) ≤ v4 then (some (.inr σ)) else (if ((v2 >>> (v4 &&& 31)) &&& (1 : Int32)) ≠ (1 : Int32) then (lt (v4 + (1 : Int32)) fun v4_62 => some (.inl (v4_62, σ))) else (bnd2 (M_X9_meets σ v4 v3) fun r58 s_58 => lt (v4 + (1 : Int32)) fun v4_62 => some (.inl (v4_62, s_58)))))
def M_X9_plan_L74 (σ : Wd) (v1 : Int32) (v2 : Int32) (v3 : Int32) (v4 : Int32) (v5 : Int32) : Option ((Int32 × Int32) ⊕ (Int32)) :=
  chk (ib (gI σ 0 18) 2) (if (gI σ 10 (ix (gI σ 0 18))) ≤ v5 then (some (.inr v4)) else (bnd1 (M_X9_areAlike σ v5 v3) fun r92 => if r92 ≠ 0 then (lt (v5 + (1 : Int32)) fun v5_107 => some (.inl (v4, v5_107))) else (lt (v4 ||| ((1 : Int32) <<< (v5 &&& 31))) fun v4_105 => lt (v5 + (1 : Int32)) fun v5_107 => some (.inl (v4_105, v5_107)))))
def M_X9_plan (σ : Wd) (v1 : Int32) : Option (Int32 × Wd) :=
  bnd1 (M_X9_in v1 (0 : Int32) (2 : Int32)) fun r3 => if r3 ≠ 0 then (bnd1 (M_X9_copiesNow σ) fun s_12 => bnd1 (M_X9_bringers s_12) fun r16 => chk (ib (2 : Int32) 770) (lt (gI s_12 26 (ix (2 : Int32))) fun v3_26 => bnd1 (iter (fun s : Int32 × Wd => M_X9_plan_L30 v1 r16 v3_26 s.1 s.2) FU ((0 : Int32), s_12)) (un1 fun sx_30 => (bnd1 (iter (fun s : Int32 × Int32 => M_X9_plan_L74 sx_30 v1 r16 v3_26 s.1 s.2) FU ((0 : Int32), (0 : Int32))) (un1 fun x4_74 => (if v1 ≠ 0 then (if v1 ≠ (1 : Int32) then (some (x4_74, sx_30)) else (some (r16, sx_30))) else (bnd1 (M_X9_bits r16) fun r118 => bnd1 (M_X9_bits x4_74) fun r123 => some ((r118 + r123), sx_30)))))))) else (some ((-1 : Int32), σ))
set_option maxRecDepth 100000 in
set_option maxHeartbeats 4000000 in
theorem c_X9_plan (V : Vt) (l : Launch) (σ : Wd) (v1 : Int32) {r : Int32} {σ2 : Wd} (h : M_X9_plan σ v1 = some (r, σ2)) : Ct l (Zm V) yX9_plan cX9_plan 6 (some .int) 5 116 [.ref (zA (Zm V) 0), .int v1] σ (some (.int r)) σ2 := by
  refine Ct_intro (own := RX9) zm_ok (by decide +kernel) rfl (Nat.le_of_ble_eq_true rfl) [(0, .ref (zA (Zm V) 0)), (1, .int v1)] rfl (fun K C R hKl hnL => ?_)
  have hN := nl_of hnL
  subst hKl
  refine Y_end h ?_
  unfold M_X9_plan
  refine x_iload_n C 0 1 dX9_plan_0 rfl ?_
  refine x_iconst C 1 dX9_plan_1 ki_0 ?_
  refine x_iconst C 2 dX9_plan_2 ki_2 ?_
  refine Y_bnd1 (fun r3 h3 => ?_)
  refine x_callSi C 3 [.int v1, .int (0 : Int32), .int (2 : Int32)] [] rfl tw_1572 ms_X9_in (Nat.le_of_ble_eq_true rfl) (Nat.le_of_ble_eq_true rfl) (Nat.le_of_ble_eq_true rfl) dX9_plan_3 (c_X9_in V _ _ _ _ _ h3) ?_
  refine x_if_ne C 6 11 dX9_plan_6 (by decide) (fun _ => ?_) (fun _ => ?_)
  · refine x_aload_n C 11 0 dX9_plan_11 rfl ?_
    refine Y_bnd1 (fun s_12 h12 => ?_)
    refine x_callVv C 12 [] [] rfl tw_1579 mv_X9_copiesNow (Nat.le_of_ble_eq_true rfl) (Nat.le_of_ble_eq_true rfl) (Nat.le_of_ble_eq_true rfl) (Nat.le_of_ble_eq_true rfl) (km_0 V _) rfl dX9_plan_12 (c_X9_copiesNow V _ _  h12) ?_
    refine x_aload_n C 15 0 dX9_plan_15 rfl ?_
    refine Y_bnd1 (fun r16 h16 => ?_)
    refine x_callVi C 16 [] [] rfl tw_1874 mv_X9_bringers (Nat.le_of_ble_eq_true rfl) (Nat.le_of_ble_eq_true rfl) (Nat.le_of_ble_eq_true rfl) (Nat.le_of_ble_eq_true rfl) (km_0 V _) rfl dX9_plan_16 (c_X9_bringers V _ _  h16) ?_
    refine x_istore_n C 19 (L' := [(2, .int r16), (0, .ref (zA (Zm V) 0)), (1, .int v1)]) dX9_plan_19 rfl (hN _ (Nat.le_of_ble_eq_true rfl)) rfl ?_
    refine x_aload_n C 20 1 dX9_plan_20 rfl ?_
    refine fg_row C 21 dX9_plan_21 ?_
    refine x_iconst C 24 dX9_plan_24 ki_2 ?_
    refine x_iald C 25 (Nat.le_of_ble_eq_true rfl) (km_26 V _) dX9_plan_25 (fun _ => ?_)
    refine x_istore_nt C 26 (fun v3_26 => [(3, .int v3_26), (2, .int r16), (0, .ref (zA (Zm V) 0)), (1, .int v1)]) dX9_plan_26 rfl (hN _ (Nat.le_of_ble_eq_true rfl)) (fun _ => rfl) (fun v3_26 => ?_)
    refine x_iconst C 27 dX9_plan_27 ki_0 ?_
    refine x_istore C 28 (L' := [(4, .int (0 : Int32)), (3, .int v3_26), (2, .int r16), (0, .ref (zA (Zm V) 0)), (1, .int v1)]) dX9_plan_28 (hN _ (Nat.le_of_ble_eq_true rfl)) rfl ?_
    refine Y_sub [3, 4, 2, 1, 0] rfl ?_
    refine x_loop 30 (fun s : Int32 × Wd => s.2) (fun s : Int32 × Wd => [(0, .ref (zA (Zm V) 0)), (1, .int v1), (2, .int r16), (3, .int v3_26), (4, .int s.1)]) (fun E30 hb30 hx30 s => ?_) FU ((0 : Int32), s_12)
    obtain ⟨v4_30, s_30⟩ := s
    show Y K (Zm V) (M_X9_plan_L30 v1 r16 v3_26 v4_30 s_30) E30 s_30 30 [(0, .ref (zA (Zm V) 0)), (1, .int v1), (2, .int r16), (3, .int v3_26), (4, .int v4_30)] []
    unfold M_X9_plan_L30
    refine x_iload C 30 4 dX9_plan_30 rfl ?_
    refine x_aload_n C 32 0 dX9_plan_32 rfl ?_
    refine fg_copies C 33 dX9_plan_33 ?_
    refine x_aload_n C 36 0 dX9_plan_36 rfl ?_
    refine fg_live C 37 dX9_plan_37 ?_
    refine x_iald C 40 (Nat.le_of_ble_eq_true rfl) (km_10 V _) dX9_plan_40 (fun _ => ?_)
    refine x_icmp_ge C 41 68 dX9_plan_41 (by decide) (fun _ => ?_) (fun _ => ?_)
    · refine x_ex1 hx30 s_30 ?_
      refine x_iconst C 68 dX9_plan_68 ki_0 ?_
      refine x_istore C 69 (L' := [(4, .int (0 : Int32)), (0, .ref (zA (Zm V) 0)), (1, .int v1), (2, .int r16), (3, .int v3_26)]) dX9_plan_69 (hN _ (Nat.le_of_ble_eq_true rfl)) rfl ?_
      refine x_iconst C 71 dX9_plan_71 ki_0 ?_
      refine x_istore C 72 (L' := [(5, .int (0 : Int32)), (4, .int (0 : Int32)), (0, .ref (zA (Zm V) 0)), (1, .int v1), (2, .int r16), (3, .int v3_26)]) dX9_plan_72 (hN _ (Nat.le_of_ble_eq_true rfl)) rfl ?_
      refine Y_sub [2, 3, 4, 5, 1, 0] rfl ?_
      refine x_loop 74 (fun s : Int32 × Int32 => s_30) (fun s : Int32 × Int32 => [(0, .ref (zA (Zm V) 0)), (1, .int v1), (2, .int r16), (3, .int v3_26), (4, .int s.1), (5, .int s.2)]) (fun E74 hb74 hx74 s => ?_) FU ((0 : Int32), (0 : Int32))
      obtain ⟨v4_74, v5_74⟩ := s
      show Y K (Zm V) (M_X9_plan_L74 s_30 v1 r16 v3_26 v4_74 v5_74) E74 s_30 74 [(0, .ref (zA (Zm V) 0)), (1, .int v1), (2, .int r16), (3, .int v3_26), (4, .int v4_74), (5, .int v5_74)] []
      unfold M_X9_plan_L74
      refine x_iload C 74 5 dX9_plan_74 rfl ?_
      refine x_aload_n C 76 0 dX9_plan_76 rfl ?_
      refine fg_copies C 77 dX9_plan_77 ?_
      refine x_aload_n C 80 0 dX9_plan_80 rfl ?_
      refine fg_live C 81 dX9_plan_81 ?_
      refine x_iald C 84 (Nat.le_of_ble_eq_true rfl) (km_10 V _) dX9_plan_84 (fun _ => ?_)
      refine x_icmp_ge C 85 113 dX9_plan_85 (by decide) (fun _ => ?_) (fun _ => ?_)
      · refine x_ex1 hx74 v4_74 ?_
        refine x_iload_n C 113 1 dX9_plan_113 rfl ?_
        refine x_if_ne C 114 130 dX9_plan_114 (by decide) (fun _ => ?_) (fun _ => ?_)
        · refine x_iload_n C 130 1 dX9_plan_130 rfl ?_
          refine x_iconst C 131 dX9_plan_131 ki_1 ?_
          refine x_icmp_ne C 132 139 dX9_plan_132 (by decide) (fun _ => ?_) (fun _ => ?_)
          · refine x_iload C 139 4 dX9_plan_139 rfl ?_
            exact x_iret2 C R 141 dX9_plan_141
          · refine x_iload_n C 135 2 dX9_plan_135 rfl ?_
            refine x_goto C 136 141 dX9_plan_136 (by decide) ?_
            exact x_iret2 C R 141 dX9_plan_141
        · refine x_iload_n C 117 2 dX9_plan_117 rfl ?_
          refine Y_bnd1 (fun r118 h118 => ?_)
          refine x_callSi C 118 [.int r16] [] rfl tw_1882 ms_X9_bits (Nat.le_of_ble_eq_true rfl) (Nat.le_of_ble_eq_true rfl) (Nat.le_of_ble_eq_true rfl) dX9_plan_118 (c_X9_bits V _ _ _ h118) ?_
          refine x_iload C 121 4 dX9_plan_121 rfl ?_
          refine Y_bnd1 (fun r123 h123 => ?_)
          refine x_callSi C 123 [.int v4_74] [.int r118] rfl tw_1882 ms_X9_bits (Nat.le_of_ble_eq_true rfl) (Nat.le_of_ble_eq_true rfl) (Nat.le_of_ble_eq_true rfl) dX9_plan_123 (c_X9_bits V _ _ _ h123) ?_
          refine x_iadd C 126 dX9_plan_126 ?_
          refine x_goto C 127 141 dX9_plan_127 (by decide) ?_
          exact x_iret2 C R 141 dX9_plan_141
      · refine x_aload_n C 88 0 dX9_plan_88 rfl ?_
        refine x_iload C 89 5 dX9_plan_89 rfl ?_
        refine x_iload_n C 91 3 dX9_plan_91 rfl ?_
        refine Y_bnd1 (fun r92 h92 => ?_)
        refine x_callVi C 92 [.int v5_74, .int v3_26] [] rfl tw_1826 mv_X9_areAlike (Nat.le_of_ble_eq_true rfl) (Nat.le_of_ble_eq_true rfl) (Nat.le_of_ble_eq_true rfl) (Nat.le_of_ble_eq_true rfl) (km_0 V _) rfl dX9_plan_92 (c_X9_areAlike V _ _ _ _ h92) ?_
        refine x_if_ne C 95 107 dX9_plan_95 (by decide) (fun _ => ?_) (fun _ => ?_)
        · refine x_iinct C 107 5 (1 : Int32) (fun v5_107 => [(5, .int v5_107), (0, .ref (zA (Zm V) 0)), (1, .int v1), (2, .int r16), (3, .int v3_26), (4, .int v4_74)]) dX9_plan_107 rfl ki_1 (hN _ (Nat.le_of_ble_eq_true rfl)) (fun _ => rfl) (fun v5_107 => ?_)
          refine x_goto C 110 74 dX9_plan_110 (by decide) ?_
          refine Y_sub [1, 2, 3, 4, 5, 0] rfl ?_
          exact x_back (v4_74, v5_107) (hb74 (v4_74, v5_107))
        · refine x_iload C 98 4 dX9_plan_98 rfl ?_
          refine x_iconst C 100 dX9_plan_100 ki_1 ?_
          refine x_iload C 101 5 dX9_plan_101 rfl ?_
          refine x_ishl C 103 dX9_plan_103 ?_
          refine x_ior C 104 dX9_plan_104 ?_
          refine x_istoret C 105 (fun v4_105 => [(4, .int v4_105), (0, .ref (zA (Zm V) 0)), (1, .int v1), (2, .int r16), (3, .int v3_26), (5, .int v5_74)]) dX9_plan_105 (hN _ (Nat.le_of_ble_eq_true rfl)) (fun _ => rfl) (fun v4_105 => ?_)
          refine x_iinct C 107 5 (1 : Int32) (fun v5_107 => [(5, .int v5_107), (4, .int v4_105), (0, .ref (zA (Zm V) 0)), (1, .int v1), (2, .int r16), (3, .int v3_26)]) dX9_plan_107 rfl ki_1 (hN _ (Nat.le_of_ble_eq_true rfl)) (fun _ => rfl) (fun v5_107 => ?_)
          refine x_goto C 110 74 dX9_plan_110 (by decide) ?_
          refine Y_sub [2, 3, 4, 5, 1, 0] rfl ?_
          exact x_back (v4_105, v5_107) (hb74 (v4_105, v5_107))
    · refine x_iload_n C 44 2 dX9_plan_44 rfl ?_
      refine x_iload C 45 4 dX9_plan_45 rfl ?_
      refine x_ishr C 47 dX9_plan_47 ?_
      refine x_iconst C 48 dX9_plan_48 ki_1 ?_
      refine x_iand C 49 dX9_plan_49 ?_
      refine x_iconst C 50 dX9_plan_50 ki_1 ?_
      refine x_icmp_ne C 51 62 dX9_plan_51 (by decide) (fun _ => ?_) (fun _ => ?_)
      · refine x_iinct C 62 4 (1 : Int32) (fun v4_62 => [(4, .int v4_62), (0, .ref (zA (Zm V) 0)), (1, .int v1), (2, .int r16), (3, .int v3_26)]) dX9_plan_62 rfl ki_1 (hN _ (Nat.le_of_ble_eq_true rfl)) (fun _ => rfl) (fun v4_62 => ?_)
        refine x_goto C 65 30 dX9_plan_65 (by decide) ?_
        refine Y_sub [1, 2, 3, 4, 0] rfl ?_
        exact x_back (v4_62, s_30) (hb30 (v4_62, s_30))
      · refine x_aload_n C 54 0 dX9_plan_54 rfl ?_
        refine x_iload C 55 4 dX9_plan_55 rfl ?_
        refine x_iload_n C 57 3 dX9_plan_57 rfl ?_
        refine Y_bnd2 (fun r58 s_58 h58 => ?_)
        refine x_callVi C 58 [.int v4_30, .int v3_26] [] rfl tw_1711 mv_X9_meets (Nat.le_of_ble_eq_true rfl) (Nat.le_of_ble_eq_true rfl) (Nat.le_of_ble_eq_true rfl) (Nat.le_of_ble_eq_true rfl) (km_0 V _) rfl dX9_plan_58 (c_X9_meets V _ _ _ _ h58) ?_
        refine x_pop C 61 dX9_plan_61 rfl ?_
        refine x_iinct C 62 4 (1 : Int32) (fun v4_62 => [(4, .int v4_62), (0, .ref (zA (Zm V) 0)), (1, .int v1), (2, .int r16), (3, .int v3_26)]) dX9_plan_62 rfl ki_1 (hN _ (Nat.le_of_ble_eq_true rfl)) (fun _ => rfl) (fun v4_62 => ?_)
        refine x_goto C 65 30 dX9_plan_65 (by decide) ?_
        refine Y_sub [1, 2, 3, 4, 0] rfl ?_
        exact x_back (v4_62, s_58) (hb30 (v4_62, s_58))
  · refine x_iconst C 9 dX9_plan_9 ki_m1 ?_
    exact x_iret2 C R 10 dX9_plan_10
def M_X9_isSettled (σ : Wd) : Option Int32 :=
  bnd1 (M_X9_areAllAlike σ) fun r1 => if r1 = 0 then (some (0 : Int32)) else (chk (ib (1 : Int32) 770) (chk (ib (0 : Int32) 770) (if (gI σ 26 (ix (1 : Int32))) ≠ (gI σ 26 (ix (0 : Int32))) then (some (0 : Int32)) else (some (1 : Int32)))))
set_option maxRecDepth 100000 in
set_option maxHeartbeats 4000000 in
theorem c_X9_isSettled (V : Vt) (l : Launch) (σ : Wd) {r : Int32} (h : M_X9_isSettled σ = some r) : Ct l (Zm V) yX9_isSettled cX9_isSettled 1 (some .boolean) 4 89 [.ref (zA (Zm V) 0)] σ (some (.int r)) σ := by
  refine Ct_intro (own := RX9) zm_ok (by decide +kernel) rfl (Nat.le_of_ble_eq_true rfl) [(0, .ref (zA (Zm V) 0))] rfl (fun K C R hKl hnL => ?_)
  have hN := nl_of hnL
  subst hKl
  refine Y_end h ?_
  unfold M_X9_isSettled
  refine x_aload_n C 0 0 dX9_isSettled_0 rfl ?_
  refine Y_bnd1 (fun r1 h1 => ?_)
  refine x_callVi C 1 [] [] rfl tw_1893 mv_X9_areAllAlike (Nat.le_of_ble_eq_true rfl) (Nat.le_of_ble_eq_true rfl) (Nat.le_of_ble_eq_true rfl) (Nat.le_of_ble_eq_true rfl) (km_0 V _) rfl dX9_isSettled_1 (c_X9_areAllAlike V _ _  h1) ?_
  refine x_if_eq C 4 26 dX9_isSettled_4 (by decide) (fun _ => ?_) (fun _ => ?_)
  · refine x_iconst C 26 dX9_isSettled_26 ki_0 ?_
    exact x_zret1 C R 27 (zb_nar (r := (0 : Int32)) (Or.inl rfl)) dX9_isSettled_27
  · refine x_aload_n C 7 0 dX9_isSettled_7 rfl ?_
    refine fg_row C 8 dX9_isSettled_8 ?_
    refine x_iconst C 11 dX9_isSettled_11 ki_1 ?_
    refine x_iald C 12 (Nat.le_of_ble_eq_true rfl) (km_26 V _) dX9_isSettled_12 (fun _ => ?_)
    refine x_aload_n C 13 0 dX9_isSettled_13 rfl ?_
    refine fg_row C 14 dX9_isSettled_14 ?_
    refine x_iconst C 17 dX9_isSettled_17 ki_0 ?_
    refine x_iald C 18 (Nat.le_of_ble_eq_true rfl) (km_26 V _) dX9_isSettled_18 (fun _ => ?_)
    refine x_icmp_ne C 19 26 dX9_isSettled_19 (by decide) (fun _ => ?_) (fun _ => ?_)
    · refine x_iconst C 26 dX9_isSettled_26 ki_0 ?_
      exact x_zret1 C R 27 (zb_nar (r := (0 : Int32)) (Or.inl rfl)) dX9_isSettled_27
    · refine x_iconst C 22 dX9_isSettled_22 ki_1 ?_
      refine x_goto C 23 27 dX9_isSettled_23 (by decide) ?_
      exact x_zret1 C R 27 (zb_nar (r := (1 : Int32)) (Or.inr rfl)) dX9_isSettled_27
def M_X9_soon_L6 (v1 : Int32) (σ : Wd) : Option ((Int32 × Wd) ⊕ ((Wd) ⊕ (Int32 × Wd))) :=
  if (60 : Int32) < v1 then (some (.inr (.inl σ))) else (bnd1 (M_X9_isSettled σ) fun r13 => if r13 = 0 then (bnd1 (M_X9_meetsByChance σ) fun s_22 => lt (v1 + (1 : Int32)) fun v1_25 => some (.inl (v1_25, s_22))) else (some (.inr (.inr (v1, σ)))))
def M_X9_soon (σ : Wd) : Option (Int32 × Wd) :=
  bnd1 (M_X9_copiesNow σ) fun s_1 => bnd1 (iter (fun s : Int32 × Wd => M_X9_soon_L6 s.1 s.2) FU ((0 : Int32), s_1)) (sx (un1 fun sx_6 => (some ((-2 : Int32), sx_6))) (fun q => some q))
set_option maxRecDepth 100000 in
set_option maxHeartbeats 4000000 in
theorem c_X9_soon (V : Vt) (l : Launch) (σ : Wd) {r : Int32} {σ2 : Wd} (h : M_X9_soon σ = some (r, σ2)) : Ct l (Zm V) yX9_soon cX9_soon 2 (some .int) 6 140 [.ref (zA (Zm V) 0)] σ (some (.int r)) σ2 := by
  refine Ct_intro (own := RX9) zm_ok (by decide +kernel) rfl (Nat.le_of_ble_eq_true rfl) [(0, .ref (zA (Zm V) 0))] rfl (fun K C R hKl hnL => ?_)
  have hN := nl_of hnL
  subst hKl
  refine Y_end h ?_
  unfold M_X9_soon
  refine x_aload_n C 0 0 dX9_soon_0 rfl ?_
  refine Y_bnd1 (fun s_1 h1 => ?_)
  refine x_callVv C 1 [] [] rfl tw_1579 mv_X9_copiesNow (Nat.le_of_ble_eq_true rfl) (Nat.le_of_ble_eq_true rfl) (Nat.le_of_ble_eq_true rfl) (Nat.le_of_ble_eq_true rfl) (km_0 V _) rfl dX9_soon_1 (c_X9_copiesNow V _ _  h1) ?_
  refine x_iconst C 4 dX9_soon_4 ki_0 ?_
  refine x_istore_n C 5 (L' := [(1, .int (0 : Int32)), (0, .ref (zA (Zm V) 0))]) dX9_soon_5 rfl (hN _ (Nat.le_of_ble_eq_true rfl)) rfl ?_
  refine Y_sub [1, 0] rfl ?_
  refine x_loop 6 (fun s : Int32 × Wd => s.2) (fun s : Int32 × Wd => [(0, .ref (zA (Zm V) 0)), (1, .int s.1)]) (fun E6 hb6 hx6 s => ?_) FU ((0 : Int32), s_1)
  obtain ⟨v1_6, s_6⟩ := s
  show Y K (Zm V) (M_X9_soon_L6 v1_6 s_6) E6 s_6 6 [(0, .ref (zA (Zm V) 0)), (1, .int v1_6)] []
  unfold M_X9_soon_L6
  refine x_iload_n C 6 1 dX9_soon_6 rfl ?_
  refine x_bipush C 7 dX9_soon_7 kb_60 ?_
  refine x_icmp_gt C 9 31 dX9_soon_9 (by decide) (fun _ => ?_) (fun _ => ?_)
  · refine x_exl1 hx6 s_6 ?_
    refine x_bipush C 31 dX9_soon_31 kb_m2 ?_
    exact x_iret2 C R 33 dX9_soon_33
  · refine x_aload_n C 12 0 dX9_soon_12 rfl ?_
    refine Y_bnd1 (fun r13 h13 => ?_)
    refine x_callVi C 13 [] [] rfl tw_1889 mv_X9_isSettled (Nat.le_of_ble_eq_true rfl) (Nat.le_of_ble_eq_true rfl) (Nat.le_of_ble_eq_true rfl) (Nat.le_of_ble_eq_true rfl) (km_0 V _) rfl dX9_soon_13 (c_X9_isSettled V _ _  h13) ?_
    refine x_if_eq C 16 21 dX9_soon_16 (by decide) (fun _ => ?_) (fun _ => ?_)
    · refine x_aload_n C 21 0 dX9_soon_21 rfl ?_
      refine Y_bnd1 (fun s_22 h22 => ?_)
      refine x_callVv C 22 [] [] rfl tw_1738 mv_X9_meetsByChance (Nat.le_of_ble_eq_true rfl) (Nat.le_of_ble_eq_true rfl) (Nat.le_of_ble_eq_true rfl) (Nat.le_of_ble_eq_true rfl) (km_0 V _) rfl dX9_soon_22 (c_X9_meetsByChance V _ _  h22) ?_
      refine x_iinct C 25 1 (1 : Int32) (fun v1_25 => [(1, .int v1_25), (0, .ref (zA (Zm V) 0))]) dX9_soon_25 rfl ki_1 (hN _ (Nat.le_of_ble_eq_true rfl)) (fun _ => rfl) (fun v1_25 => ?_)
      refine x_goto C 28 6 dX9_soon_28 (by decide) ?_
      refine Y_sub [1, 0] rfl ?_
      exact x_back (v1_25, s_22) (hb6 (v1_25, s_22))
    · refine x_iload_n C 19 1 dX9_soon_19 rfl ?_
      refine x_exr hx6 _ ?_
      exact x_iret2 C R 20 dX9_soon_20
def M_X9_year_L48 (v1 : Int32) (v2 : Int32) (v3 : Int32) (v4 : Int32) (v5 : Int32) (σ : Wd) : Option ((Int32 × Wd) ⊕ (Wd)) :=
  if v1 ≤ v5 then (some (.inr σ)) else (bnd1 (M_X9_meetsByChance σ) fun s_55 => lt (v5 + (1 : Int32)) fun v5_58 => some (.inl (v5_58, s_55)))
def M_X9_year_L24 (v1 : Int32) (v2 : Int32) (v3 : Int32) (v4 : Int32) (σ : Wd) : Option ((Int32 × Int32 × Wd) ⊕ (Int32 × Wd)) :=
  if v2 ≤ v4 then (some (.inr (v3, σ))) else (bnd1 (M_X9_copiesNow σ) fun s_31 => lt (uI s_31 0 43 ((gI s_31 0 43) + v4)) fun s_42 => bnd1 (iter (fun s : Int32 × Wd => M_X9_year_L48 v1 v2 v3 v4 s.1 s.2) FU ((0 : Int32), s_42)) (un1 fun sx_48 => (bnd1 (M_X9_isSettled sx_48) fun r65 => if r65 = 0 then (lt (v4 + (1 : Int32)) fun v4_74 => some (.inl (v3, v4_74, sx_48))) else (lt (v3 + (1 : Int32)) fun v3_71 => lt (v4 + (1 : Int32)) fun v4_74 => some (.inl (v3_71, v4_74, sx_48))))))
def M_X9_year (σ : Wd) (v1 : Int32) (v2 : Int32) : Option (Int32 × Wd) :=
  bnd1 (M_X9_isLong v1) fun r1 => if r1 = 0 then (some ((-1 : Int32), σ)) else (bnd1 (M_X9_in v2 (1 : Int32) (20 : Int32)) fun r11 => if r11 ≠ 0 then (bnd1 (iter (fun s : Int32 × Int32 × Wd => M_X9_year_L24 v1 v2 s.1 s.2.1 s.2.2) FU ((0 : Int32), (0 : Int32), σ)) (un2 fun x3_24 sx_24 => (some (x3_24, sx_24)))) else (some ((-1 : Int32), σ)))
set_option maxRecDepth 100000 in
set_option maxHeartbeats 4000000 in
theorem c_X9_year (V : Vt) (l : Launch) (σ : Wd) (v1 : Int32) (v2 : Int32) {r : Int32} {σ2 : Wd} (h : M_X9_year σ v1 v2 = some (r, σ2)) : Ct l (Zm V) yX9_year cX9_year 6 (some .int) 6 140 [.ref (zA (Zm V) 0), .int v1, .int v2] σ (some (.int r)) σ2 := by
  refine Ct_intro (own := RX9) zm_ok (by decide +kernel) rfl (Nat.le_of_ble_eq_true rfl) [(0, .ref (zA (Zm V) 0)), (1, .int v1), (2, .int v2)] rfl (fun K C R hKl hnL => ?_)
  have hN := nl_of hnL
  subst hKl
  refine Y_end h ?_
  unfold M_X9_year
  refine x_iload_n C 0 1 dX9_year_0 rfl ?_
  refine Y_bnd1 (fun r1 h1 => ?_)
  refine x_callSi C 1 [.int v1] [] rfl tw_1735 ms_X9_isLong (Nat.le_of_ble_eq_true rfl) (Nat.le_of_ble_eq_true rfl) (Nat.le_of_ble_eq_true rfl) dX9_year_1 (c_X9_isLong V _ _ _ h1) ?_
  refine x_if_eq C 4 17 dX9_year_4 (by decide) (fun _ => ?_) (fun _ => ?_)
  · refine x_iconst C 17 dX9_year_17 ki_m1 ?_
    exact x_iret2 C R 18 dX9_year_18
  · refine x_iload_n C 7 2 dX9_year_7 rfl ?_
    refine x_iconst C 8 dX9_year_8 ki_1 ?_
    refine x_bipush C 9 dX9_year_9 kb_20 ?_
    refine Y_bnd1 (fun r11 h11 => ?_)
    refine x_callSi C 11 [.int v2, .int (1 : Int32), .int (20 : Int32)] [] rfl tw_1572 ms_X9_in (Nat.le_of_ble_eq_true rfl) (Nat.le_of_ble_eq_true rfl) (Nat.le_of_ble_eq_true rfl) dX9_year_11 (c_X9_in V _ _ _ _ _ h11) ?_
    refine x_if_ne C 14 19 dX9_year_14 (by decide) (fun _ => ?_) (fun _ => ?_)
    · refine x_iconst C 19 dX9_year_19 ki_0 ?_
      refine x_istore_n C 20 (L' := [(3, .int (0 : Int32)), (0, .ref (zA (Zm V) 0)), (1, .int v1), (2, .int v2)]) dX9_year_20 rfl (hN _ (Nat.le_of_ble_eq_true rfl)) rfl ?_
      refine x_iconst C 21 dX9_year_21 ki_0 ?_
      refine x_istore C 22 (L' := [(4, .int (0 : Int32)), (3, .int (0 : Int32)), (0, .ref (zA (Zm V) 0)), (1, .int v1), (2, .int v2)]) dX9_year_22 (hN _ (Nat.le_of_ble_eq_true rfl)) rfl ?_
      refine Y_sub [2, 3, 4, 1, 0] rfl ?_
      refine x_loop 24 (fun s : Int32 × Int32 × Wd => s.2.2) (fun s : Int32 × Int32 × Wd => [(0, .ref (zA (Zm V) 0)), (1, .int v1), (2, .int v2), (3, .int s.1), (4, .int s.2.1)]) (fun E24 hb24 hx24 s => ?_) FU ((0 : Int32), (0 : Int32), σ)
      obtain ⟨v3_24, v4_24, s_24⟩ := s
      show Y K (Zm V) (M_X9_year_L24 v1 v2 v3_24 v4_24 s_24) E24 s_24 24 [(0, .ref (zA (Zm V) 0)), (1, .int v1), (2, .int v2), (3, .int v3_24), (4, .int v4_24)] []
      unfold M_X9_year_L24
      refine x_iload C 24 4 dX9_year_24 rfl ?_
      refine x_iload_n C 26 2 dX9_year_26 rfl ?_
      refine x_icmp_ge C 27 80 dX9_year_27 (by decide) (fun _ => ?_) (fun _ => ?_)
      · refine x_ex2 hx24 v3_24 s_24 ?_
        refine x_iload_n C 80 3 dX9_year_80 rfl ?_
        exact x_iret2 C R 81 dX9_year_81
      · refine x_aload_n C 30 0 dX9_year_30 rfl ?_
        refine Y_bnd1 (fun s_31 h31 => ?_)
        refine x_callVv C 31 [] [] rfl tw_1579 mv_X9_copiesNow (Nat.le_of_ble_eq_true rfl) (Nat.le_of_ble_eq_true rfl) (Nat.le_of_ble_eq_true rfl) (Nat.le_of_ble_eq_true rfl) (km_0 V _) rfl dX9_year_31 (c_X9_copiesNow V _ _  h31) ?_
        refine x_aload_n C 34 0 dX9_year_34 rfl ?_
        refine x_dup C 35 dX9_year_35 rfl ?_
        refine fg_lots C 36 dX9_year_36 ?_
        refine x_iload C 39 4 dX9_year_39 rfl ?_
        refine x_iadd C 41 dX9_year_41 ?_
        refine fp_lots C 42 dX9_year_42 (fun s_42 => ?_)
        refine x_iconst C 45 dX9_year_45 ki_0 ?_
        refine x_istore C 46 (L' := [(5, .int (0 : Int32)), (0, .ref (zA (Zm V) 0)), (1, .int v1), (2, .int v2), (3, .int v3_24), (4, .int v4_24)]) dX9_year_46 (hN _ (Nat.le_of_ble_eq_true rfl)) rfl ?_
        refine Y_sub [1, 2, 3, 4, 5, 0] rfl ?_
        refine x_loop 48 (fun s : Int32 × Wd => s.2) (fun s : Int32 × Wd => [(0, .ref (zA (Zm V) 0)), (1, .int v1), (2, .int v2), (3, .int v3_24), (4, .int v4_24), (5, .int s.1)]) (fun E48 hb48 hx48 s => ?_) FU ((0 : Int32), s_42)
        obtain ⟨v5_48, s_48⟩ := s
        show Y K (Zm V) (M_X9_year_L48 v1 v2 v3_24 v4_24 v5_48 s_48) E48 s_48 48 [(0, .ref (zA (Zm V) 0)), (1, .int v1), (2, .int v2), (3, .int v3_24), (4, .int v4_24), (5, .int v5_48)] []
        unfold M_X9_year_L48
        refine x_iload C 48 5 dX9_year_48 rfl ?_
        refine x_iload_n C 50 1 dX9_year_50 rfl ?_
        refine x_icmp_ge C 51 64 dX9_year_51 (by decide) (fun _ => ?_) (fun _ => ?_)
        · refine x_ex1 hx48 s_48 ?_
          refine x_aload_n C 64 0 dX9_year_64 rfl ?_
          refine Y_bnd1 (fun r65 h65 => ?_)
          refine x_callVi C 65 [] [] rfl tw_1889 mv_X9_isSettled (Nat.le_of_ble_eq_true rfl) (Nat.le_of_ble_eq_true rfl) (Nat.le_of_ble_eq_true rfl) (Nat.le_of_ble_eq_true rfl) (km_0 V _) rfl dX9_year_65 (c_X9_isSettled V _ _  h65) ?_
          refine x_if_eq C 68 74 dX9_year_68 (by decide) (fun _ => ?_) (fun _ => ?_)
          · refine x_iinct C 74 4 (1 : Int32) (fun v4_74 => [(4, .int v4_74), (0, .ref (zA (Zm V) 0)), (1, .int v1), (2, .int v2), (3, .int v3_24), (5, .int v5_48)]) dX9_year_74 rfl ki_1 (hN _ (Nat.le_of_ble_eq_true rfl)) (fun _ => rfl) (fun v4_74 => ?_)
            refine x_goto C 77 24 dX9_year_77 (by decide) ?_
            refine Y_sub [1, 2, 3, 4, 0] rfl ?_
            exact x_back (v3_24, v4_74, s_48) (hb24 (v3_24, v4_74, s_48))
          · refine x_iinct C 71 3 (1 : Int32) (fun v3_71 => [(3, .int v3_71), (0, .ref (zA (Zm V) 0)), (1, .int v1), (2, .int v2), (4, .int v4_24), (5, .int v5_48)]) dX9_year_71 rfl ki_1 (hN _ (Nat.le_of_ble_eq_true rfl)) (fun _ => rfl) (fun v3_71 => ?_)
            refine x_iinct C 74 4 (1 : Int32) (fun v4_74 => [(4, .int v4_74), (3, .int v3_71), (0, .ref (zA (Zm V) 0)), (1, .int v1), (2, .int v2), (5, .int v5_48)]) dX9_year_74 rfl ki_1 (hN _ (Nat.le_of_ble_eq_true rfl)) (fun _ => rfl) (fun v4_74 => ?_)
            refine x_goto C 77 24 dX9_year_77 (by decide) ?_
            refine Y_sub [2, 3, 4, 1, 0] rfl ?_
            exact x_back (v3_71, v4_74, s_48) (hb24 (v3_71, v4_74, s_48))
        · refine x_aload_n C 54 0 dX9_year_54 rfl ?_
          refine Y_bnd1 (fun s_55 h55 => ?_)
          refine x_callVv C 55 [] [] rfl tw_1738 mv_X9_meetsByChance (Nat.le_of_ble_eq_true rfl) (Nat.le_of_ble_eq_true rfl) (Nat.le_of_ble_eq_true rfl) (Nat.le_of_ble_eq_true rfl) (km_0 V _) rfl dX9_year_55 (c_X9_meetsByChance V _ _  h55) ?_
          refine x_iinct C 58 5 (1 : Int32) (fun v5_58 => [(5, .int v5_58), (0, .ref (zA (Zm V) 0)), (1, .int v1), (2, .int v2), (3, .int v3_24), (4, .int v4_24)]) dX9_year_58 rfl ki_1 (hN _ (Nat.le_of_ble_eq_true rfl)) (fun _ => rfl) (fun v5_58 => ?_)
          refine x_goto C 61 48 dX9_year_61 (by decide) ?_
          refine Y_sub [1, 2, 3, 4, 5, 0] rfl ?_
          exact x_back (v5_58, s_55) (hb48 (v5_58, s_55))
    · refine x_iconst C 17 dX9_year_17 ki_m1 ?_
      exact x_iret2 C R 18 dX9_year_18
def M_X9_hold_L20 (v1 : Int32) (v2 : Int32) (σ : Wd) : Option ((Int32 × Wd) ⊕ (Wd)) :=
  if (770 : Int32) ≤ v2 then (some (.inr σ)) else (chk (ib v2 770) (chk (ib (((770 : Int32) * v1) + v2) 2310) (lt (uI σ 36 (ix (((770 : Int32) * v1) + v2)) (gI σ 25 (ix v2))) fun s_44 => lt (v2 + (1 : Int32)) fun v2_45 => some (.inl (v2_45, s_44)))))
def M_X9_hold (σ : Wd) (v1 : Int32) : Option (Int32 × Wd) :=
  bnd1 (M_X9_in v1 (0 : Int32) (2 : Int32)) fun r3 => if r3 ≠ 0 then (chk (ib v1 3) (lt (uI σ 35 (ix v1) (vp_nar .boolean (1 : Int32))) fun s_17 => bnd1 (iter (fun s : Int32 × Wd => M_X9_hold_L20 v1 s.1 s.2) FU ((0 : Int32), s_17)) (un1 fun sx_20 => (some ((1 : Int32), sx_20))))) else (some ((0 : Int32), σ))
set_option maxRecDepth 100000 in
set_option maxHeartbeats 4000000 in
theorem c_X9_hold (V : Vt) (l : Launch) (σ : Wd) (v1 : Int32) {r : Int32} {σ2 : Wd} (h : M_X9_hold σ v1 = some (r, σ2)) : Ct l (Zm V) yX9_hold cX9_hold 3 (some .boolean) 1 22 [.ref (zA (Zm V) 0), .int v1] σ (some (.int r)) σ2 := by
  refine Ct_intro (own := RX9) zm_ok (by decide +kernel) rfl (Nat.le_of_ble_eq_true rfl) [(0, .ref (zA (Zm V) 0)), (1, .int v1)] rfl (fun K C R hKl hnL => ?_)
  have hN := nl_of hnL
  subst hKl
  refine Y_end h ?_
  unfold M_X9_hold
  refine x_iload_n C 0 1 dX9_hold_0 rfl ?_
  refine x_iconst C 1 dX9_hold_1 ki_0 ?_
  refine x_iconst C 2 dX9_hold_2 ki_2 ?_
  refine Y_bnd1 (fun r3 h3 => ?_)
  refine x_callSi C 3 [.int v1, .int (0 : Int32), .int (2 : Int32)] [] rfl tw_1572 ms_X9_in (Nat.le_of_ble_eq_true rfl) (Nat.le_of_ble_eq_true rfl) (Nat.le_of_ble_eq_true rfl) dX9_hold_3 (c_X9_in V _ _ _ _ _ h3) ?_
  refine x_if_ne C 6 11 dX9_hold_6 (by decide) (fun _ => ?_) (fun _ => ?_)
  · refine x_aload_n C 11 0 dX9_hold_11 rfl ?_
    refine fg_isHeld C 12 dX9_hold_12 ?_
    refine x_iload_n C 15 1 dX9_hold_15 rfl ?_
    refine x_iconst C 16 dX9_hold_16 ki_1 ?_
    refine x_zast C 17 (Nat.le_of_ble_eq_true rfl) (km_35 V) dX9_hold_17 (fun _ s_17 => ?_)
    refine x_iconst C 18 dX9_hold_18 ki_0 ?_
    refine x_istore_n C 19 (L' := [(2, .int (0 : Int32)), (0, .ref (zA (Zm V) 0)), (1, .int v1)]) dX9_hold_19 rfl (hN _ (Nat.le_of_ble_eq_true rfl)) rfl ?_
    refine Y_sub [1, 2, 0] rfl ?_
    refine x_loop 20 (fun s : Int32 × Wd => s.2) (fun s : Int32 × Wd => [(0, .ref (zA (Zm V) 0)), (1, .int v1), (2, .int s.1)]) (fun E20 hb20 hx20 s => ?_) FU ((0 : Int32), s_17)
    obtain ⟨v2_20, s_20⟩ := s
    show Y K (Zm V) (M_X9_hold_L20 v1 v2_20 s_20) E20 s_20 20 [(0, .ref (zA (Zm V) 0)), (1, .int v1), (2, .int v2_20)] []
    unfold M_X9_hold_L20
    refine x_iload_n C 20 2 dX9_hold_20 rfl ?_
    refine x_sipush C 21 dX9_hold_21 ks_770 ?_
    refine x_icmp_ge C 24 51 dX9_hold_24 (by decide) (fun _ => ?_) (fun _ => ?_)
    · refine x_ex1 hx20 s_20 ?_
      refine x_iconst C 51 dX9_hold_51 ki_1 ?_
      exact x_zret2 C R 52 (zb_nar (r := (1 : Int32)) (Or.inr rfl)) dX9_hold_52
    · refine x_aload_n C 27 0 dX9_hold_27 rfl ?_
      refine fg_heldRows C 28 dX9_hold_28 ?_
      refine x_sipush C 31 dX9_hold_31 ks_770 ?_
      refine x_iload_n C 34 1 dX9_hold_34 rfl ?_
      refine x_imul C 35 dX9_hold_35 ?_
      refine x_iload_n C 36 2 dX9_hold_36 rfl ?_
      refine x_iadd C 37 dX9_hold_37 ?_
      refine x_aload_n C 38 0 dX9_hold_38 rfl ?_
      refine fg_now C 39 dX9_hold_39 ?_
      refine x_iload_n C 42 2 dX9_hold_42 rfl ?_
      refine x_iald C 43 (Nat.le_of_ble_eq_true rfl) (km_25 V _) dX9_hold_43 (fun _ => ?_)
      refine x_iast C 44 (Nat.le_of_ble_eq_true rfl) (km_36 V) dX9_hold_44 (fun _ s_44 => ?_)
      refine x_iinct C 45 2 (1 : Int32) (fun v2_45 => [(2, .int v2_45), (0, .ref (zA (Zm V) 0)), (1, .int v1)]) dX9_hold_45 rfl ki_1 (hN _ (Nat.le_of_ble_eq_true rfl)) (fun _ => rfl) (fun v2_45 => ?_)
      refine x_goto C 48 20 dX9_hold_48 (by decide) ?_
      refine Y_sub [1, 2, 0] rfl ?_
      exact x_back (v2_45, s_44) (hb20 (v2_45, s_44))
  · refine x_iconst C 9 dX9_hold_9 ki_0 ?_
    exact x_zret2 C R 10 (zb_nar (r := (0 : Int32)) (Or.inl rfl)) dX9_hold_10
def M_X9_restore_L22 (v1 : Int32) (v2 : Int32) (σ : Wd) : Option ((Int32 × Wd) ⊕ (Wd)) :=
  if (770 : Int32) ≤ v2 then (some (.inr σ)) else (chk (ib (((770 : Int32) * v1) + v2) 2310) (chk (ib v2 770) (lt (uI σ 25 (ix v2) (gI σ 36 (ix (((770 : Int32) * v1) + v2)))) fun s_46 => lt (v2 + (1 : Int32)) fun v2_47 => some (.inl (v2_47, s_46)))))
def M_X9_restore (σ : Wd) (v1 : Int32) : Option (Int32 × Wd) :=
  bnd1 (M_X9_in v1 (0 : Int32) (2 : Int32)) fun r3 => if r3 = 0 then (some ((0 : Int32), σ)) else (chk (ib v1 3) (if (gI σ 35 (ix v1)) ≠ 0 then (bnd1 (iter (fun s : Int32 × Wd => M_X9_restore_L22 v1 s.1 s.2) FU ((0 : Int32), σ)) (un1 fun sx_22 => (lt (uI sx_22 0 51 (0 : Int32)) fun s_55 => some ((1 : Int32), s_55)))) else (some ((0 : Int32), σ))))
set_option maxRecDepth 100000 in
set_option maxHeartbeats 4000000 in
theorem c_X9_restore (V : Vt) (l : Launch) (σ : Wd) (v1 : Int32) {r : Int32} {σ2 : Wd} (h : M_X9_restore σ v1 = some (r, σ2)) : Ct l (Zm V) yX9_restore cX9_restore 3 (some .boolean) 1 22 [.ref (zA (Zm V) 0), .int v1] σ (some (.int r)) σ2 := by
  refine Ct_intro (own := RX9) zm_ok (by decide +kernel) rfl (Nat.le_of_ble_eq_true rfl) [(0, .ref (zA (Zm V) 0)), (1, .int v1)] rfl (fun K C R hKl hnL => ?_)
  have hN := nl_of hnL
  subst hKl
  refine Y_end h ?_
  unfold M_X9_restore
  refine x_iload_n C 0 1 dX9_restore_0 rfl ?_
  refine x_iconst C 1 dX9_restore_1 ki_0 ?_
  refine x_iconst C 2 dX9_restore_2 ki_2 ?_
  refine Y_bnd1 (fun r3 h3 => ?_)
  refine x_callSi C 3 [.int v1, .int (0 : Int32), .int (2 : Int32)] [] rfl tw_1572 ms_X9_in (Nat.le_of_ble_eq_true rfl) (Nat.le_of_ble_eq_true rfl) (Nat.le_of_ble_eq_true rfl) dX9_restore_3 (c_X9_in V _ _ _ _ _ h3) ?_
  refine x_if_eq C 6 18 dX9_restore_6 (by decide) (fun _ => ?_) (fun _ => ?_)
  · refine x_iconst C 18 dX9_restore_18 ki_0 ?_
    exact x_zret2 C R 19 (zb_nar (r := (0 : Int32)) (Or.inl rfl)) dX9_restore_19
  · refine x_aload_n C 9 0 dX9_restore_9 rfl ?_
    refine fg_isHeld C 10 dX9_restore_10 ?_
    refine x_iload_n C 13 1 dX9_restore_13 rfl ?_
    refine x_zald C 14 (Nat.le_of_ble_eq_true rfl) (km_35 V _) dX9_restore_14 (fun _ => ?_)
    refine x_if_ne C 15 20 dX9_restore_15 (by decide) (fun _ => ?_) (fun _ => ?_)
    · refine x_iconst C 20 dX9_restore_20 ki_0 ?_
      refine x_istore_n C 21 (L' := [(2, .int (0 : Int32)), (0, .ref (zA (Zm V) 0)), (1, .int v1)]) dX9_restore_21 rfl (hN _ (Nat.le_of_ble_eq_true rfl)) rfl ?_
      refine Y_sub [1, 2, 0] rfl ?_
      refine x_loop 22 (fun s : Int32 × Wd => s.2) (fun s : Int32 × Wd => [(0, .ref (zA (Zm V) 0)), (1, .int v1), (2, .int s.1)]) (fun E22 hb22 hx22 s => ?_) FU ((0 : Int32), σ)
      obtain ⟨v2_22, s_22⟩ := s
      show Y K (Zm V) (M_X9_restore_L22 v1 v2_22 s_22) E22 s_22 22 [(0, .ref (zA (Zm V) 0)), (1, .int v1), (2, .int v2_22)] []
      unfold M_X9_restore_L22
      refine x_iload_n C 22 2 dX9_restore_22 rfl ?_
      refine x_sipush C 23 dX9_restore_23 ks_770 ?_
      refine x_icmp_ge C 26 53 dX9_restore_26 (by decide) (fun _ => ?_) (fun _ => ?_)
      · refine x_ex1 hx22 s_22 ?_
        refine x_aload_n C 53 0 dX9_restore_53 rfl ?_
        refine x_iconst C 54 dX9_restore_54 ki_0 ?_
        refine fp_undos C 55 dX9_restore_55 (fun s_55 => ?_)
        refine x_iconst C 58 dX9_restore_58 ki_1 ?_
        exact x_zret2 C R 59 (zb_nar (r := (1 : Int32)) (Or.inr rfl)) dX9_restore_59
      · refine x_aload_n C 29 0 dX9_restore_29 rfl ?_
        refine fg_now C 30 dX9_restore_30 ?_
        refine x_iload_n C 33 2 dX9_restore_33 rfl ?_
        refine x_aload_n C 34 0 dX9_restore_34 rfl ?_
        refine fg_heldRows C 35 dX9_restore_35 ?_
        refine x_sipush C 38 dX9_restore_38 ks_770 ?_
        refine x_iload_n C 41 1 dX9_restore_41 rfl ?_
        refine x_imul C 42 dX9_restore_42 ?_
        refine x_iload_n C 43 2 dX9_restore_43 rfl ?_
        refine x_iadd C 44 dX9_restore_44 ?_
        refine x_iald C 45 (Nat.le_of_ble_eq_true rfl) (km_36 V _) dX9_restore_45 (fun _ => ?_)
        refine x_iast C 46 (Nat.le_of_ble_eq_true rfl) (km_25 V) dX9_restore_46 (fun _ s_46 => ?_)
        refine x_iinct C 47 2 (1 : Int32) (fun v2_47 => [(2, .int v2_47), (0, .ref (zA (Zm V) 0)), (1, .int v1)]) dX9_restore_47 rfl ki_1 (hN _ (Nat.le_of_ble_eq_true rfl)) (fun _ => rfl) (fun v2_47 => ?_)
        refine x_goto C 50 22 dX9_restore_50 (by decide) ?_
        refine Y_sub [1, 2, 0] rfl ?_
        exact x_back (v2_47, s_46) (hb22 (v2_47, s_46))
    · refine x_iconst C 18 dX9_restore_18 ki_0 ?_
      exact x_zret2 C R 19 (zb_nar (r := (0 : Int32)) (Or.inl rfl)) dX9_restore_19
def M_X9_sumCopies_L4 (σ : Wd) (v1 : Int32) (v2 : Int32) (v3 : Int32) : Option ((Int32 × Int32) ⊕ (Int32)) :=
  if (5 : Int32) ≤ v3 then (some (.inr v2)) else (bnd1 (M_X9_ofCopy σ v3 v1) fun r13 => lt (v2 + r13) fun v2_17 => lt (v3 + (1 : Int32)) fun v3_18 => some (.inl (v2_17, v3_18)))
def M_X9_sumCopies (σ : Wd) (v1 : Int32) : Option Int32 :=
  bnd1 (iter (fun s : Int32 × Int32 => M_X9_sumCopies_L4 σ v1 s.1 s.2) FU ((0 : Int32), (0 : Int32))) (un1 fun x2_4 => (some x2_4))
set_option maxRecDepth 100000 in
set_option maxHeartbeats 4000000 in
theorem c_X9_sumCopies (V : Vt) (l : Launch) (σ : Wd) (v1 : Int32) {r : Int32} (h : M_X9_sumCopies σ v1 = some r) : Ct l (Zm V) yX9_sumCopies cX9_sumCopies 4 (some .int) 1 22 [.ref (zA (Zm V) 0), .int v1] σ (some (.int r)) σ := by
  refine Ct_intro (own := RX9) zm_ok (by decide +kernel) rfl (Nat.le_of_ble_eq_true rfl) [(0, .ref (zA (Zm V) 0)), (1, .int v1)] rfl (fun K C R hKl hnL => ?_)
  have hN := nl_of hnL
  subst hKl
  refine Y_end h ?_
  unfold M_X9_sumCopies
  refine x_iconst C 0 dX9_sumCopies_0 ki_0 ?_
  refine x_istore_n C 1 (L' := [(2, .int (0 : Int32)), (0, .ref (zA (Zm V) 0)), (1, .int v1)]) dX9_sumCopies_1 rfl (hN _ (Nat.le_of_ble_eq_true rfl)) rfl ?_
  refine x_iconst C 2 dX9_sumCopies_2 ki_0 ?_
  refine x_istore_n C 3 (L' := [(3, .int (0 : Int32)), (2, .int (0 : Int32)), (0, .ref (zA (Zm V) 0)), (1, .int v1)]) dX9_sumCopies_3 rfl (hN _ (Nat.le_of_ble_eq_true rfl)) rfl ?_
  refine Y_sub [2, 3, 1, 0] rfl ?_
  refine x_loop 4 (fun s : Int32 × Int32 => σ) (fun s : Int32 × Int32 => [(0, .ref (zA (Zm V) 0)), (1, .int v1), (2, .int s.1), (3, .int s.2)]) (fun E4 hb4 hx4 s => ?_) FU ((0 : Int32), (0 : Int32))
  obtain ⟨v2_4, v3_4⟩ := s
  show Y K (Zm V) (M_X9_sumCopies_L4 σ v1 v2_4 v3_4) E4 σ 4 [(0, .ref (zA (Zm V) 0)), (1, .int v1), (2, .int v2_4), (3, .int v3_4)] []
  unfold M_X9_sumCopies_L4
  refine x_iload_n C 4 3 dX9_sumCopies_4 rfl ?_
  refine x_iconst C 5 dX9_sumCopies_5 ki_5 ?_
  refine x_icmp_ge C 6 24 dX9_sumCopies_6 (by decide) (fun _ => ?_) (fun _ => ?_)
  · refine x_ex1 hx4 v2_4 ?_
    refine x_iload_n C 24 2 dX9_sumCopies_24 rfl ?_
    exact x_iret1 C R 25 dX9_sumCopies_25
  · refine x_iload_n C 9 2 dX9_sumCopies_9 rfl ?_
    refine x_aload_n C 10 0 dX9_sumCopies_10 rfl ?_
    refine x_iload_n C 11 3 dX9_sumCopies_11 rfl ?_
    refine x_iload_n C 12 1 dX9_sumCopies_12 rfl ?_
    refine Y_bnd1 (fun r13 h13 => ?_)
    refine x_callVi C 13 [.int v3_4, .int v1] [.int v2_4] rfl tw_1635 mv_X9_ofCopy (Nat.le_of_ble_eq_true rfl) (Nat.le_of_ble_eq_true rfl) (Nat.le_of_ble_eq_true rfl) (Nat.le_of_ble_eq_true rfl) (km_0 V _) rfl dX9_sumCopies_13 (c_X9_ofCopy V _ _ _ _ h13) ?_
    refine x_iadd C 16 dX9_sumCopies_16 ?_
    refine x_istore_nt C 17 (fun v2_17 => [(2, .int v2_17), (0, .ref (zA (Zm V) 0)), (1, .int v1), (3, .int v3_4)]) dX9_sumCopies_17 rfl (hN _ (Nat.le_of_ble_eq_true rfl)) (fun _ => rfl) (fun v2_17 => ?_)
    refine x_iinct C 18 3 (1 : Int32) (fun v3_18 => [(3, .int v3_18), (2, .int v2_17), (0, .ref (zA (Zm V) 0)), (1, .int v1)]) dX9_sumCopies_18 rfl ki_1 (hN _ (Nat.le_of_ble_eq_true rfl)) (fun _ => rfl) (fun v3_18 => ?_)
    refine x_goto C 21 4 dX9_sumCopies_21 (by decide) ?_
    refine Y_sub [2, 3, 1, 0] rfl ?_
    exact x_back (v2_17, v3_18) (hb4 (v2_17, v3_18))
def M_X9_knownByAll_L5 (σ : Wd) (v1 : Int32) (v2 : Int32) : Option ((Int32 × Int32) ⊕ (Int32)) :=
  chk (ib (gI σ 0 18) 2) (if (gI σ 10 (ix (gI σ 0 18))) ≤ v2 then (some (.inr v1)) else (bnd1 (M_X9_ofCopy σ v2 (0 : Int32)) fun r21 => if v1 ≤ r21 then (lt (v2 + (1 : Int32)) fun v2_35 => some (.inl (v1, v2_35))) else (bnd1 (M_X9_ofCopy σ v2 (0 : Int32)) fun r31 => lt (v2 + (1 : Int32)) fun v2_35 => some (.inl (r31, v2_35)))))
def M_X9_knownByAll (σ : Wd) : Option Int32 :=
  bnd1 (iter (fun s : Int32 × Int32 => M_X9_knownByAll_L5 σ s.1 s.2) FU ((60 : Int32), (0 : Int32))) (un1 fun x1_5 => (some x1_5))
set_option maxRecDepth 100000 in
set_option maxHeartbeats 4000000 in
theorem c_X9_knownByAll (V : Vt) (l : Launch) (σ : Wd) {r : Int32} (h : M_X9_knownByAll σ = some r) : Ct l (Zm V) yX9_knownByAll cX9_knownByAll 3 (some .int) 1 22 [.ref (zA (Zm V) 0)] σ (some (.int r)) σ := by
  refine Ct_intro (own := RX9) zm_ok (by decide +kernel) rfl (Nat.le_of_ble_eq_true rfl) [(0, .ref (zA (Zm V) 0))] rfl (fun K C R hKl hnL => ?_)
  have hN := nl_of hnL
  subst hKl
  refine Y_end h ?_
  unfold M_X9_knownByAll
  refine x_bipush C 0 dX9_knownByAll_0 kb_60 ?_
  refine x_istore_n C 2 (L' := [(1, .int (60 : Int32)), (0, .ref (zA (Zm V) 0))]) dX9_knownByAll_2 rfl (hN _ (Nat.le_of_ble_eq_true rfl)) rfl ?_
  refine x_iconst C 3 dX9_knownByAll_3 ki_0 ?_
  refine x_istore_n C 4 (L' := [(2, .int (0 : Int32)), (1, .int (60 : Int32)), (0, .ref (zA (Zm V) 0))]) dX9_knownByAll_4 rfl (hN _ (Nat.le_of_ble_eq_true rfl)) rfl ?_
  refine Y_sub [2, 1, 0] rfl ?_
  refine x_loop 5 (fun s : Int32 × Int32 => σ) (fun s : Int32 × Int32 => [(0, .ref (zA (Zm V) 0)), (1, .int s.1), (2, .int s.2)]) (fun E5 hb5 hx5 s => ?_) FU ((60 : Int32), (0 : Int32))
  obtain ⟨v1_5, v2_5⟩ := s
  show Y K (Zm V) (M_X9_knownByAll_L5 σ v1_5 v2_5) E5 σ 5 [(0, .ref (zA (Zm V) 0)), (1, .int v1_5), (2, .int v2_5)] []
  unfold M_X9_knownByAll_L5
  refine x_iload_n C 5 2 dX9_knownByAll_5 rfl ?_
  refine x_aload_n C 6 0 dX9_knownByAll_6 rfl ?_
  refine fg_copies C 7 dX9_knownByAll_7 ?_
  refine x_aload_n C 10 0 dX9_knownByAll_10 rfl ?_
  refine fg_live C 11 dX9_knownByAll_11 ?_
  refine x_iald C 14 (Nat.le_of_ble_eq_true rfl) (km_10 V _) dX9_knownByAll_14 (fun _ => ?_)
  refine x_icmp_ge C 15 41 dX9_knownByAll_15 (by decide) (fun _ => ?_) (fun _ => ?_)
  · refine x_ex1 hx5 v1_5 ?_
    refine x_iload_n C 41 1 dX9_knownByAll_41 rfl ?_
    exact x_iret1 C R 42 dX9_knownByAll_42
  · refine x_aload_n C 18 0 dX9_knownByAll_18 rfl ?_
    refine x_iload_n C 19 2 dX9_knownByAll_19 rfl ?_
    refine x_iconst C 20 dX9_knownByAll_20 ki_0 ?_
    refine Y_bnd1 (fun r21 h21 => ?_)
    refine x_callVi C 21 [.int v2_5, .int (0 : Int32)] [] rfl tw_1635 mv_X9_ofCopy (Nat.le_of_ble_eq_true rfl) (Nat.le_of_ble_eq_true rfl) (Nat.le_of_ble_eq_true rfl) (Nat.le_of_ble_eq_true rfl) (km_0 V _) rfl dX9_knownByAll_21 (c_X9_ofCopy V _ _ _ _ h21) ?_
    refine x_iload_n C 24 1 dX9_knownByAll_24 rfl ?_
    refine x_icmp_ge C 25 35 dX9_knownByAll_25 (by decide) (fun _ => ?_) (fun _ => ?_)
    · refine x_iinct C 35 2 (1 : Int32) (fun v2_35 => [(2, .int v2_35), (0, .ref (zA (Zm V) 0)), (1, .int v1_5)]) dX9_knownByAll_35 rfl ki_1 (hN _ (Nat.le_of_ble_eq_true rfl)) (fun _ => rfl) (fun v2_35 => ?_)
      refine x_goto C 38 5 dX9_knownByAll_38 (by decide) ?_
      refine Y_sub [1, 2, 0] rfl ?_
      exact x_back (v1_5, v2_35) (hb5 (v1_5, v2_35))
    · refine x_aload_n C 28 0 dX9_knownByAll_28 rfl ?_
      refine x_iload_n C 29 2 dX9_knownByAll_29 rfl ?_
      refine x_iconst C 30 dX9_knownByAll_30 ki_0 ?_
      refine Y_bnd1 (fun r31 h31 => ?_)
      refine x_callVi C 31 [.int v2_5, .int (0 : Int32)] [] rfl tw_1635 mv_X9_ofCopy (Nat.le_of_ble_eq_true rfl) (Nat.le_of_ble_eq_true rfl) (Nat.le_of_ble_eq_true rfl) (Nat.le_of_ble_eq_true rfl) (km_0 V _) rfl dX9_knownByAll_31 (c_X9_ofCopy V _ _ _ _ h31) ?_
      refine x_istore_n C 34 (L' := [(1, .int r31), (0, .ref (zA (Zm V) 0)), (2, .int v2_5)]) dX9_knownByAll_34 rfl (hN _ (Nat.le_of_ble_eq_true rfl)) rfl ?_
      refine x_iinct C 35 2 (1 : Int32) (fun v2_35 => [(2, .int v2_35), (1, .int r31), (0, .ref (zA (Zm V) 0))]) dX9_knownByAll_35 rfl ki_1 (hN _ (Nat.le_of_ble_eq_true rfl)) (fun _ => rfl) (fun v2_35 => ?_)
      refine x_goto C 38 5 dX9_knownByAll_38 (by decide) ?_
      refine Y_sub [2, 1, 0] rfl ?_
      exact x_back (r31, v2_35) (hb5 (r31, v2_35))
def M_X9_hadByAll_L19 (σ : Wd) (v1 : Int32) (v2 : Int32) (v3 : Int32) (v4 : Int32) : Option ((Int32 × Int32) ⊕ (Int32)) :=
  chk (ib (gI σ 0 18) 2) (if (gI σ 10 (ix (gI σ 0 18))) ≤ v4 then (some (.inr v3)) else (bnd1 (M_X9_doesHave σ v4 v2) fun r37 => if r37 ≠ 0 then (lt (v4 + (1 : Int32)) fun v4_45 => some (.inl (v3, v4_45))) else (lt (v4 + (1 : Int32)) fun v4_45 => some (.inl ((0 : Int32), v4_45)))))
def M_X9_hadByAll_L4 (σ : Wd) (v1 : Int32) (v2 : Int32) : Option ((Int32 × Int32) ⊕ (Int32)) :=
  chk (ib (0 : Int32) 770) (if (gI σ 26 (ix (0 : Int32))) ≤ v2 then (some (.inr v1)) else (bnd1 (iter (fun s : Int32 × Int32 => M_X9_hadByAll_L19 σ v1 v2 s.1 s.2) FU ((1 : Int32), (0 : Int32))) (un1 fun x3_19 => (if x3_19 = 0 then (lt (v2 + (1 : Int32)) fun v2_58 => some (.inl (v1, v2_58))) else (lt (v1 + (1 : Int32)) fun v1_55 => lt (v2 + (1 : Int32)) fun v2_58 => some (.inl (v1_55, v2_58)))))))
def M_X9_hadByAll (σ : Wd) : Option Int32 :=
  bnd1 (iter (fun s : Int32 × Int32 => M_X9_hadByAll_L4 σ s.1 s.2) FU ((0 : Int32), (0 : Int32))) (un1 fun x1_4 => (some x1_4))
set_option maxRecDepth 100000 in
set_option maxHeartbeats 4000000 in
theorem c_X9_hadByAll (V : Vt) (l : Launch) (σ : Wd) {r : Int32} (h : M_X9_hadByAll σ = some r) : Ct l (Zm V) yX9_hadByAll cX9_hadByAll 5 (some .int) 1 22 [.ref (zA (Zm V) 0)] σ (some (.int r)) σ := by
  refine Ct_intro (own := RX9) zm_ok (by decide +kernel) rfl (Nat.le_of_ble_eq_true rfl) [(0, .ref (zA (Zm V) 0))] rfl (fun K C R hKl hnL => ?_)
  have hN := nl_of hnL
  subst hKl
  refine Y_end h ?_
  unfold M_X9_hadByAll
  refine x_iconst C 0 dX9_hadByAll_0 ki_0 ?_
  refine x_istore_n C 1 (L' := [(1, .int (0 : Int32)), (0, .ref (zA (Zm V) 0))]) dX9_hadByAll_1 rfl (hN _ (Nat.le_of_ble_eq_true rfl)) rfl ?_
  refine x_iconst C 2 dX9_hadByAll_2 ki_0 ?_
  refine x_istore_n C 3 (L' := [(2, .int (0 : Int32)), (1, .int (0 : Int32)), (0, .ref (zA (Zm V) 0))]) dX9_hadByAll_3 rfl (hN _ (Nat.le_of_ble_eq_true rfl)) rfl ?_
  refine Y_sub [2, 1, 0] rfl ?_
  refine x_loop 4 (fun s : Int32 × Int32 => σ) (fun s : Int32 × Int32 => [(0, .ref (zA (Zm V) 0)), (1, .int s.1), (2, .int s.2)]) (fun E4 hb4 hx4 s => ?_) FU ((0 : Int32), (0 : Int32))
  obtain ⟨v1_4, v2_4⟩ := s
  show Y K (Zm V) (M_X9_hadByAll_L4 σ v1_4 v2_4) E4 σ 4 [(0, .ref (zA (Zm V) 0)), (1, .int v1_4), (2, .int v2_4)] []
  unfold M_X9_hadByAll_L4
  refine x_iload_n C 4 2 dX9_hadByAll_4 rfl ?_
  refine x_aload_n C 5 0 dX9_hadByAll_5 rfl ?_
  refine fg_row C 6 dX9_hadByAll_6 ?_
  refine x_iconst C 9 dX9_hadByAll_9 ki_0 ?_
  refine x_iald C 10 (Nat.le_of_ble_eq_true rfl) (km_26 V _) dX9_hadByAll_10 (fun _ => ?_)
  refine x_icmp_ge C 11 64 dX9_hadByAll_11 (by decide) (fun _ => ?_) (fun _ => ?_)
  · refine x_ex1 hx4 v1_4 ?_
    refine x_iload_n C 64 1 dX9_hadByAll_64 rfl ?_
    exact x_iret1 C R 65 dX9_hadByAll_65
  · refine x_iconst C 14 dX9_hadByAll_14 ki_1 ?_
    refine x_istore_n C 15 (L' := [(3, .int (1 : Int32)), (0, .ref (zA (Zm V) 0)), (1, .int v1_4), (2, .int v2_4)]) dX9_hadByAll_15 rfl (hN _ (Nat.le_of_ble_eq_true rfl)) rfl ?_
    refine x_iconst C 16 dX9_hadByAll_16 ki_0 ?_
    refine x_istore C 17 (L' := [(4, .int (0 : Int32)), (3, .int (1 : Int32)), (0, .ref (zA (Zm V) 0)), (1, .int v1_4), (2, .int v2_4)]) dX9_hadByAll_17 (hN _ (Nat.le_of_ble_eq_true rfl)) rfl ?_
    refine Y_sub [2, 3, 4, 1, 0] rfl ?_
    refine x_loop 19 (fun s : Int32 × Int32 => σ) (fun s : Int32 × Int32 => [(0, .ref (zA (Zm V) 0)), (1, .int v1_4), (2, .int v2_4), (3, .int s.1), (4, .int s.2)]) (fun E19 hb19 hx19 s => ?_) FU ((1 : Int32), (0 : Int32))
    obtain ⟨v3_19, v4_19⟩ := s
    show Y K (Zm V) (M_X9_hadByAll_L19 σ v1_4 v2_4 v3_19 v4_19) E19 σ 19 [(0, .ref (zA (Zm V) 0)), (1, .int v1_4), (2, .int v2_4), (3, .int v3_19), (4, .int v4_19)] []
    unfold M_X9_hadByAll_L19
    refine x_iload C 19 4 dX9_hadByAll_19 rfl ?_
    refine x_aload_n C 21 0 dX9_hadByAll_21 rfl ?_
    refine fg_copies C 22 dX9_hadByAll_22 ?_
    refine x_aload_n C 25 0 dX9_hadByAll_25 rfl ?_
    refine fg_live C 26 dX9_hadByAll_26 ?_
    refine x_iald C 29 (Nat.le_of_ble_eq_true rfl) (km_10 V _) dX9_hadByAll_29 (fun _ => ?_)
    refine x_icmp_ge C 30 51 dX9_hadByAll_30 (by decide) (fun _ => ?_) (fun _ => ?_)
    · refine x_ex1 hx19 v3_19 ?_
      refine x_iload_n C 51 3 dX9_hadByAll_51 rfl ?_
      refine x_if_eq C 52 58 dX9_hadByAll_52 (by decide) (fun _ => ?_) (fun _ => ?_)
      · refine x_iinct C 58 2 (1 : Int32) (fun v2_58 => [(2, .int v2_58), (0, .ref (zA (Zm V) 0)), (1, .int v1_4), (3, .int v3_19), (4, .int v4_19)]) dX9_hadByAll_58 rfl ki_1 (hN _ (Nat.le_of_ble_eq_true rfl)) (fun _ => rfl) (fun v2_58 => ?_)
        refine x_goto C 61 4 dX9_hadByAll_61 (by decide) ?_
        refine Y_sub [1, 2, 0] rfl ?_
        exact x_back (v1_4, v2_58) (hb4 (v1_4, v2_58))
      · refine x_iinct C 55 1 (1 : Int32) (fun v1_55 => [(1, .int v1_55), (0, .ref (zA (Zm V) 0)), (2, .int v2_4), (3, .int v3_19), (4, .int v4_19)]) dX9_hadByAll_55 rfl ki_1 (hN _ (Nat.le_of_ble_eq_true rfl)) (fun _ => rfl) (fun v1_55 => ?_)
        refine x_iinct C 58 2 (1 : Int32) (fun v2_58 => [(2, .int v2_58), (1, .int v1_55), (0, .ref (zA (Zm V) 0)), (3, .int v3_19), (4, .int v4_19)]) dX9_hadByAll_58 rfl ki_1 (hN _ (Nat.le_of_ble_eq_true rfl)) (fun _ => rfl) (fun v2_58 => ?_)
        refine x_goto C 61 4 dX9_hadByAll_61 (by decide) ?_
        refine Y_sub [2, 1, 0] rfl ?_
        exact x_back (v1_55, v2_58) (hb4 (v1_55, v2_58))
    · refine x_aload_n C 33 0 dX9_hadByAll_33 rfl ?_
      refine x_iload C 34 4 dX9_hadByAll_34 rfl ?_
      refine x_iload_n C 36 2 dX9_hadByAll_36 rfl ?_
      refine Y_bnd1 (fun r37 h37 => ?_)
      refine x_callVi C 37 [.int v4_19, .int v2_4] [] rfl tw_1607 mv_X9_doesHave (Nat.le_of_ble_eq_true rfl) (Nat.le_of_ble_eq_true rfl) (Nat.le_of_ble_eq_true rfl) (Nat.le_of_ble_eq_true rfl) (km_0 V _) rfl dX9_hadByAll_37 (c_X9_doesHave V _ _ _ _ h37) ?_
      refine x_if_ne C 40 45 dX9_hadByAll_40 (by decide) (fun _ => ?_) (fun _ => ?_)
      · refine x_iinct C 45 4 (1 : Int32) (fun v4_45 => [(4, .int v4_45), (0, .ref (zA (Zm V) 0)), (1, .int v1_4), (2, .int v2_4), (3, .int v3_19)]) dX9_hadByAll_45 rfl ki_1 (hN _ (Nat.le_of_ble_eq_true rfl)) (fun _ => rfl) (fun v4_45 => ?_)
        refine x_goto C 48 19 dX9_hadByAll_48 (by decide) ?_
        refine Y_sub [1, 2, 3, 4, 0] rfl ?_
        exact x_back (v3_19, v4_45) (hb19 (v3_19, v4_45))
      · refine x_iconst C 43 dX9_hadByAll_43 ki_0 ?_
        refine x_istore_n C 44 (L' := [(3, .int (0 : Int32)), (0, .ref (zA (Zm V) 0)), (1, .int v1_4), (2, .int v2_4), (4, .int v4_19)]) dX9_hadByAll_44 rfl (hN _ (Nat.le_of_ble_eq_true rfl)) rfl ?_
        refine x_iinct C 45 4 (1 : Int32) (fun v4_45 => [(4, .int v4_45), (3, .int (0 : Int32)), (0, .ref (zA (Zm V) 0)), (1, .int v1_4), (2, .int v2_4)]) dX9_hadByAll_45 rfl ki_1 (hN _ (Nat.le_of_ble_eq_true rfl)) (fun _ => rfl) (fun v4_45 => ?_)
        refine x_goto C 48 19 dX9_hadByAll_48 (by decide) ?_
        refine Y_sub [2, 3, 4, 1, 0] rfl ?_
        exact x_back ((0 : Int32), v4_45) (hb19 ((0 : Int32), v4_45))
def M_X9_count_J226 (σ : Wd) (t0 : Int32) (t1 : Int32) : Option (Int32 × Wd) :=
  some ((t1 + t0), σ)
def M_X9_count_J211 (σ : Wd) (t0 : Int32) (t1 : Int32) : Option (Int32 × Wd) :=
  chk (ib (2 : Int32) 3) (if (gI σ 35 (ix (2 : Int32))) = 0 then (M_X9_count_J226 σ (0 : Int32) (t1 + t0)) else (M_X9_count_J226 σ (1 : Int32) (t1 + t0)))
def M_X9_count_J197 (σ : Wd) (t0 : Int32) : Option (Int32 × Wd) :=
  chk (ib (1 : Int32) 3) (if (gI σ 35 (ix (1 : Int32))) = 0 then (M_X9_count_J211 σ (0 : Int32) t0) else (M_X9_count_J211 σ (1 : Int32) t0))
def M_X9_count_L252 (σ : Wd) (v2 : Int32) (v3 : Int32) : Option ((Int32 × Int32) ⊕ (Int32)) :=
  if (4 : Int32) ≤ v3 then (some (.inr v2)) else (chk (ib (((50 : Int32) + ((14 : Int32) * v3)) + (1 : Int32)) 770) (lt (v2 + (gI σ 26 (ix (((50 : Int32) + ((14 : Int32) * v3)) + (1 : Int32))))) fun v2_273 => lt (v3 + (1 : Int32)) fun v3_274 => some (.inl (v2_273, v3_274))))
def M_X9_count (σ : Wd) (v1 : Int32) : Option (Int32 × Wd) :=
  bnd1 (M_X9_copiesNow σ) fun s_1 => if v1 = (0 : Int32) then (chk (ib (gI s_1 0 18) 2) (some ((gI s_1 10 (ix (gI s_1 0 18))), s_1))) else (if v1 = (1 : Int32) then (chk (ib (gI s_1 0 18) 2) (some ((gI s_1 12 (ix (gI s_1 0 18))), s_1))) else (if v1 = (2 : Int32) then (chk (ib (gI s_1 0 18) 2) (some ((gI s_1 14 (ix (gI s_1 0 18))), s_1))) else (if v1 = (3 : Int32) then (chk (ib (0 : Int32) 770) (some ((gI s_1 26 (ix (0 : Int32))), s_1))) else (if v1 = (4 : Int32) then (chk (ib (1 : Int32) 770) (some ((gI s_1 26 (ix (1 : Int32))), s_1))) else (if v1 = (5 : Int32) then (chk (ib (2 : Int32) 770) (some ((gI s_1 26 (ix (2 : Int32))), s_1))) else (if v1 = (6 : Int32) then (chk (ib (3 : Int32) 770) (some ((gI s_1 26 (ix (3 : Int32))), s_1))) else (if v1 = (7 : Int32) then (bnd1 (M_X9_sumCopies s_1 (1 : Int32)) fun r156 => some (r156, s_1)) else (if v1 = (8 : Int32) then (some ((gI s_1 0 2), s_1)) else (if v1 = (9 : Int32) then (some ((gI s_1 0 51), s_1)) else (if v1 = (10 : Int32) then (bnd1 (M_X9_areAllAlike s_1) fun r171 => if r171 = 0 then (some ((0 : Int32), s_1)) else (some ((1 : Int32), s_1))) else (if v1 = (11 : Int32) then (chk (ib (0 : Int32) 3) (if (gI s_1 35 (ix (0 : Int32))) = 0 then (M_X9_count_J197 s_1 (0 : Int32)) else (M_X9_count_J197 s_1 (1 : Int32)))) else (if v1 = (12 : Int32) then (bnd1 (M_X9_sumCopies s_1 (3 : Int32)) fun r230 => some (r230, s_1)) else (if v1 = (13 : Int32) then (bnd1 (M_X9_sumCopies s_1 (4 : Int32)) fun r236 => some (r236, s_1)) else (if v1 = (14 : Int32) then (bnd1 (M_X9_knownByAll s_1) fun r241 => some (r241, s_1)) else (if v1 = (15 : Int32) then (bnd1 (M_X9_hadByAll s_1) fun r246 => some (r246, s_1)) else (if v1 = (16 : Int32) then (bnd1 (iter (fun s : Int32 × Int32 => M_X9_count_L252 s_1 s.1 s.2) FU ((0 : Int32), (0 : Int32))) (un1 fun x2_252 => (some (x2_252, s_1)))) else (if v1 = (17 : Int32) then (chk (ib (2 : Int32) 770) (bnd2 (M_X9_copy s_1 (gI s_1 26 (ix (2 : Int32))) (7 : Int32)) fun r291 s_291 => some (r291, s_291))) else (if v1 = (18 : Int32) then (chk (ib (2 : Int32) 770) (bnd2 (M_X9_copy s_1 (gI s_1 26 (ix (2 : Int32))) (8 : Int32)) fun r304 s_304 => some (r304, s_304))) else (some ((-1 : Int32), s_1))))))))))))))))))))
set_option maxRecDepth 100000 in
set_option maxHeartbeats 4000000 in
theorem c_X9_count (V : Vt) (l : Launch) (σ : Wd) (v1 : Int32) {r : Int32} {σ2 : Wd} (h : M_X9_count σ v1 = some (r, σ2)) : Ct l (Zm V) yX9_count cX9_count 4 (some .int) 6 143 [.ref (zA (Zm V) 0), .int v1] σ (some (.int r)) σ2 := by
  refine Ct_intro (own := RX9) zm_ok (by decide +kernel) rfl (Nat.le_of_ble_eq_true rfl) [(0, .ref (zA (Zm V) 0)), (1, .int v1)] rfl (fun K C R hKl hnL => ?_)
  have hN := nl_of hnL
  subst hKl
  refine Y_end h ?_
  unfold M_X9_count
  refine x_aload_n C 0 0 dX9_count_0 rfl ?_
  refine Y_bnd1 (fun s_1 h1 => ?_)
  refine x_callVv C 1 [] [] rfl tw_1579 mv_X9_copiesNow (Nat.le_of_ble_eq_true rfl) (Nat.le_of_ble_eq_true rfl) (Nat.le_of_ble_eq_true rfl) (Nat.le_of_ble_eq_true rfl) (km_0 V _) rfl dX9_count_1 (c_X9_copiesNow V _ _  h1) ?_
  refine x_iconst C 4 dX9_count_4 ki_0 ?_
  refine x_istore_n C 5 (L' := [(2, .int (0 : Int32)), (0, .ref (zA (Zm V) 0)), (1, .int v1)]) dX9_count_5 rfl (hN _ (Nat.le_of_ble_eq_true rfl)) rfl ?_
  refine x_iload_n C 6 2 dX9_count_6 rfl ?_
  refine Y_ite (fun c7 => ?_) (fun c7_0 => ?_)
  · refine x_tswIn C 7 96 (0 : Int32) c7 dX9_count_7 (by decide) (by decide) rfl (by decide) ?_
    refine x_aload_n C 96 1 dX9_count_96 rfl ?_
    refine fg_copies C 97 dX9_count_97 ?_
    refine x_aload_n C 100 1 dX9_count_100 rfl ?_
    refine fg_live C 101 dX9_count_101 ?_
    refine x_iald C 104 (Nat.le_of_ble_eq_true rfl) (km_10 V _) dX9_count_104 (fun _ => ?_)
    exact x_iret2 C R 105 dX9_count_105
  refine Y_ite (fun c7 => ?_) (fun c7_1 => ?_)
  · refine x_tswIn C 7 106 (1 : Int32) c7 dX9_count_7 (by decide) (by decide) rfl (by decide) ?_
    refine x_aload_n C 106 1 dX9_count_106 rfl ?_
    refine fg_cells C 107 dX9_count_107 ?_
    refine x_aload_n C 110 1 dX9_count_110 rfl ?_
    refine fg_live C 111 dX9_count_111 ?_
    refine x_iald C 114 (Nat.le_of_ble_eq_true rfl) (km_12 V _) dX9_count_114 (fun _ => ?_)
    exact x_iret2 C R 115 dX9_count_115
  refine Y_ite (fun c7 => ?_) (fun c7_2 => ?_)
  · refine x_tswIn C 7 116 (2 : Int32) c7 dX9_count_7 (by decide) (by decide) rfl (by decide) ?_
    refine x_aload_n C 116 1 dX9_count_116 rfl ?_
    refine fg_forms C 117 dX9_count_117 ?_
    refine x_aload_n C 120 1 dX9_count_120 rfl ?_
    refine fg_live C 121 dX9_count_121 ?_
    refine x_iald C 124 (Nat.le_of_ble_eq_true rfl) (km_14 V _) dX9_count_124 (fun _ => ?_)
    exact x_iret2 C R 125 dX9_count_125
  refine Y_ite (fun c7 => ?_) (fun c7_3 => ?_)
  · refine x_tswIn C 7 126 (3 : Int32) c7 dX9_count_7 (by decide) (by decide) rfl (by decide) ?_
    refine x_aload_n C 126 1 dX9_count_126 rfl ?_
    refine fg_row C 127 dX9_count_127 ?_
    refine x_iconst C 130 dX9_count_130 ki_0 ?_
    refine x_iald C 131 (Nat.le_of_ble_eq_true rfl) (km_26 V _) dX9_count_131 (fun _ => ?_)
    exact x_iret2 C R 132 dX9_count_132
  refine Y_ite (fun c7 => ?_) (fun c7_4 => ?_)
  · refine x_tswIn C 7 133 (4 : Int32) c7 dX9_count_7 (by decide) (by decide) rfl (by decide) ?_
    refine x_aload_n C 133 1 dX9_count_133 rfl ?_
    refine fg_row C 134 dX9_count_134 ?_
    refine x_iconst C 137 dX9_count_137 ki_1 ?_
    refine x_iald C 138 (Nat.le_of_ble_eq_true rfl) (km_26 V _) dX9_count_138 (fun _ => ?_)
    exact x_iret2 C R 139 dX9_count_139
  refine Y_ite (fun c7 => ?_) (fun c7_5 => ?_)
  · refine x_tswIn C 7 140 (5 : Int32) c7 dX9_count_7 (by decide) (by decide) rfl (by decide) ?_
    refine x_aload_n C 140 1 dX9_count_140 rfl ?_
    refine fg_row C 141 dX9_count_141 ?_
    refine x_iconst C 144 dX9_count_144 ki_2 ?_
    refine x_iald C 145 (Nat.le_of_ble_eq_true rfl) (km_26 V _) dX9_count_145 (fun _ => ?_)
    exact x_iret2 C R 146 dX9_count_146
  refine Y_ite (fun c7 => ?_) (fun c7_6 => ?_)
  · refine x_tswIn C 7 147 (6 : Int32) c7 dX9_count_7 (by decide) (by decide) rfl (by decide) ?_
    refine x_aload_n C 147 1 dX9_count_147 rfl ?_
    refine fg_row C 148 dX9_count_148 ?_
    refine x_iconst C 151 dX9_count_151 ki_3 ?_
    refine x_iald C 152 (Nat.le_of_ble_eq_true rfl) (km_26 V _) dX9_count_152 (fun _ => ?_)
    exact x_iret2 C R 153 dX9_count_153
  refine Y_ite (fun c7 => ?_) (fun c7_7 => ?_)
  · refine x_tswIn C 7 154 (7 : Int32) c7 dX9_count_7 (by decide) (by decide) rfl (by decide) ?_
    refine x_aload_n C 154 1 dX9_count_154 rfl ?_
    refine x_iconst C 155 dX9_count_155 ki_1 ?_
    refine Y_bnd1 (fun r156 h156 => ?_)
    refine x_callVi C 156 [.int (1 : Int32)] [] rfl tw_1913 mv_X9_sumCopies (Nat.le_of_ble_eq_true rfl) (Nat.le_of_ble_eq_true rfl) (Nat.le_of_ble_eq_true rfl) (Nat.le_of_ble_eq_true rfl) (km_0 V _) rfl dX9_count_156 (c_X9_sumCopies V _ _ _ h156) ?_
    exact x_iret2 C R 159 dX9_count_159
  refine Y_ite (fun c7 => ?_) (fun c7_8 => ?_)
  · refine x_tswIn C 7 160 (8 : Int32) c7 dX9_count_7 (by decide) (by decide) rfl (by decide) ?_
    refine x_aload_n C 160 1 dX9_count_160 rfl ?_
    refine fg_taped C 161 dX9_count_161 ?_
    exact x_iret2 C R 164 dX9_count_164
  refine Y_ite (fun c7 => ?_) (fun c7_9 => ?_)
  · refine x_tswIn C 7 165 (9 : Int32) c7 dX9_count_7 (by decide) (by decide) rfl (by decide) ?_
    refine x_aload_n C 165 1 dX9_count_165 rfl ?_
    refine fg_undos C 166 dX9_count_166 ?_
    exact x_iret2 C R 169 dX9_count_169
  refine Y_ite (fun c7 => ?_) (fun c7_10 => ?_)
  · refine x_tswIn C 7 170 (10 : Int32) c7 dX9_count_7 (by decide) (by decide) rfl (by decide) ?_
    refine x_aload_n C 170 1 dX9_count_170 rfl ?_
    refine Y_bnd1 (fun r171 h171 => ?_)
    refine x_callVi C 171 [] [] rfl tw_1893 mv_X9_areAllAlike (Nat.le_of_ble_eq_true rfl) (Nat.le_of_ble_eq_true rfl) (Nat.le_of_ble_eq_true rfl) (Nat.le_of_ble_eq_true rfl) (km_0 V _) rfl dX9_count_171 (c_X9_areAllAlike V _ _  h171) ?_
    refine x_if_eq C 174 181 dX9_count_174 (by decide) (fun _ => ?_) (fun _ => ?_)
    · refine x_iconst C 181 dX9_count_181 ki_0 ?_
      exact x_iret2 C R 182 dX9_count_182
    · refine x_iconst C 177 dX9_count_177 ki_1 ?_
      refine x_goto C 178 182 dX9_count_178 (by decide) ?_
      exact x_iret2 C R 182 dX9_count_182
  refine Y_ite (fun c7 => ?_) (fun c7_11 => ?_)
  · refine x_tswIn C 7 183 (11 : Int32) c7 dX9_count_7 (by decide) (by decide) rfl (by decide) ?_
    refine x_aload_n C 183 1 dX9_count_183 rfl ?_
    refine fg_isHeld C 184 dX9_count_184 ?_
    refine x_iconst C 187 dX9_count_187 ki_0 ?_
    refine x_zald C 188 (Nat.le_of_ble_eq_true rfl) (km_35 V _) dX9_count_188 (fun _ => ?_)
    have hJ197 : ∀ (σ_197 : Wd) (t0_197 : Int32), Y K (Zm V) (M_X9_count_J197 σ_197 t0_197) (fun q => q = (r, σ2)) σ_197 197 [(0, .ref (zA (Zm V) 0))] [.int t0_197] := by
      intro σ_197 t0_197
      unfold M_X9_count_J197
      refine x_aload_n C 197 0 dX9_count_197 rfl ?_
      refine fg_isHeld C 198 dX9_count_198 ?_
      refine x_iconst C 201 dX9_count_201 ki_1 ?_
      refine x_zald C 202 (Nat.le_of_ble_eq_true rfl) (km_35 V _) dX9_count_202 (fun _ => ?_)
      have hJ211 : ∀ (σ_211 : Wd) (t0_211 : Int32) (t1_211 : Int32), Y K (Zm V) (M_X9_count_J211 σ_211 t0_211 t1_211) (fun q => q = (r, σ2)) σ_211 211 [(0, .ref (zA (Zm V) 0))] [.int t0_211, .int t1_211] := by
        intro σ_211 t0_211 t1_211
        unfold M_X9_count_J211
        refine x_iadd C 211 dX9_count_211 ?_
        refine x_aload_n C 212 0 dX9_count_212 rfl ?_
        refine fg_isHeld C 213 dX9_count_213 ?_
        refine x_iconst C 216 dX9_count_216 ki_2 ?_
        refine x_zald C 217 (Nat.le_of_ble_eq_true rfl) (km_35 V _) dX9_count_217 (fun _ => ?_)
        have hJ226 : ∀ (σ_226 : Wd) (t0_226 : Int32) (t1_226 : Int32), Y K (Zm V) (M_X9_count_J226 σ_226 t0_226 t1_226) (fun q => q = (r, σ2)) σ_226 226 [] [.int t0_226, .int t1_226] := by
          intro σ_226 t0_226 t1_226
          unfold M_X9_count_J226
          refine x_iadd C 226 dX9_count_226 ?_
          exact x_iret2 C R 227 dX9_count_227
        refine x_if_eq C 218 225 dX9_count_218 (by decide) (fun _ => ?_) (fun _ => ?_)
        · refine x_iconst C 225 dX9_count_225 ki_0 ?_
          refine Y_sub [] rfl ?_
          exact hJ226 _ _ _
        · refine x_iconst C 221 dX9_count_221 ki_1 ?_
          refine x_goto C 222 226 dX9_count_222 (by decide) ?_
          refine Y_sub [] rfl ?_
          exact hJ226 _ _ _
      refine x_if_eq C 203 210 dX9_count_203 (by decide) (fun _ => ?_) (fun _ => ?_)
      · refine x_iconst C 210 dX9_count_210 ki_0 ?_
        exact hJ211 _ _ _
      · refine x_iconst C 206 dX9_count_206 ki_1 ?_
        refine x_goto C 207 211 dX9_count_207 (by decide) ?_
        exact hJ211 _ _ _
    refine x_if_eq C 189 196 dX9_count_189 (by decide) (fun _ => ?_) (fun _ => ?_)
    · refine x_iconst C 196 dX9_count_196 ki_0 ?_
      refine Y_sub [1] rfl ?_
      exact hJ197 _ _
    · refine x_iconst C 192 dX9_count_192 ki_1 ?_
      refine x_goto C 193 197 dX9_count_193 (by decide) ?_
      refine Y_sub [1] rfl ?_
      exact hJ197 _ _
  refine Y_ite (fun c7 => ?_) (fun c7_12 => ?_)
  · refine x_tswIn C 7 228 (12 : Int32) c7 dX9_count_7 (by decide) (by decide) rfl (by decide) ?_
    refine x_aload_n C 228 1 dX9_count_228 rfl ?_
    refine x_iconst C 229 dX9_count_229 ki_3 ?_
    refine Y_bnd1 (fun r230 h230 => ?_)
    refine x_callVi C 230 [.int (3 : Int32)] [] rfl tw_1913 mv_X9_sumCopies (Nat.le_of_ble_eq_true rfl) (Nat.le_of_ble_eq_true rfl) (Nat.le_of_ble_eq_true rfl) (Nat.le_of_ble_eq_true rfl) (km_0 V _) rfl dX9_count_230 (c_X9_sumCopies V _ _ _ h230) ?_
    exact x_iret2 C R 233 dX9_count_233
  refine Y_ite (fun c7 => ?_) (fun c7_13 => ?_)
  · refine x_tswIn C 7 234 (13 : Int32) c7 dX9_count_7 (by decide) (by decide) rfl (by decide) ?_
    refine x_aload_n C 234 1 dX9_count_234 rfl ?_
    refine x_iconst C 235 dX9_count_235 ki_4 ?_
    refine Y_bnd1 (fun r236 h236 => ?_)
    refine x_callVi C 236 [.int (4 : Int32)] [] rfl tw_1913 mv_X9_sumCopies (Nat.le_of_ble_eq_true rfl) (Nat.le_of_ble_eq_true rfl) (Nat.le_of_ble_eq_true rfl) (Nat.le_of_ble_eq_true rfl) (km_0 V _) rfl dX9_count_236 (c_X9_sumCopies V _ _ _ h236) ?_
    exact x_iret2 C R 239 dX9_count_239
  refine Y_ite (fun c7 => ?_) (fun c7_14 => ?_)
  · refine x_tswIn C 7 240 (14 : Int32) c7 dX9_count_7 (by decide) (by decide) rfl (by decide) ?_
    refine x_aload_n C 240 1 dX9_count_240 rfl ?_
    refine Y_bnd1 (fun r241 h241 => ?_)
    refine x_callVi C 241 [] [] rfl tw_1917 mv_X9_knownByAll (Nat.le_of_ble_eq_true rfl) (Nat.le_of_ble_eq_true rfl) (Nat.le_of_ble_eq_true rfl) (Nat.le_of_ble_eq_true rfl) (km_0 V _) rfl dX9_count_241 (c_X9_knownByAll V _ _  h241) ?_
    exact x_iret2 C R 244 dX9_count_244
  refine Y_ite (fun c7 => ?_) (fun c7_15 => ?_)
  · refine x_tswIn C 7 245 (15 : Int32) c7 dX9_count_7 (by decide) (by decide) rfl (by decide) ?_
    refine x_aload_n C 245 1 dX9_count_245 rfl ?_
    refine Y_bnd1 (fun r246 h246 => ?_)
    refine x_callVi C 246 [] [] rfl tw_1921 mv_X9_hadByAll (Nat.le_of_ble_eq_true rfl) (Nat.le_of_ble_eq_true rfl) (Nat.le_of_ble_eq_true rfl) (Nat.le_of_ble_eq_true rfl) (km_0 V _) rfl dX9_count_246 (c_X9_hadByAll V _ _  h246) ?_
    exact x_iret2 C R 249 dX9_count_249
  refine Y_ite (fun c7 => ?_) (fun c7_16 => ?_)
  · refine x_tswIn C 7 250 (16 : Int32) c7 dX9_count_7 (by decide) (by decide) rfl (by decide) ?_
    refine x_iconst C 250 dX9_count_250 ki_0 ?_
    refine x_istore_n C 251 (L' := [(3, .int (0 : Int32)), (2, .int (0 : Int32)), (0, .ref (zA (Zm V) 0)), (1, .int v1)]) dX9_count_251 rfl (hN _ (Nat.le_of_ble_eq_true rfl)) rfl ?_
    refine Y_sub [2, 1, 0] rfl ?_
    refine x_loop 252 (fun s : Int32 × Int32 => s_1) (fun s : Int32 × Int32 => [(0, .ref (zA (Zm V) 0)), (2, .int s.1), (3, .int s.2)]) (fun E252 hb252 hx252 s => ?_) FU ((0 : Int32), (0 : Int32))
    obtain ⟨v2_252, v3_252⟩ := s
    show Y K (Zm V) (M_X9_count_L252 s_1 v2_252 v3_252) E252 s_1 252 [(0, .ref (zA (Zm V) 0)), (2, .int v2_252), (3, .int v3_252)] []
    unfold M_X9_count_L252
    refine x_iload_n C 252 2 dX9_count_252 rfl ?_
    refine x_iconst C 253 dX9_count_253 ki_4 ?_
    refine x_icmp_ge C 254 280 dX9_count_254 (by decide) (fun _ => ?_) (fun _ => ?_)
    · refine x_ex1 hx252 v2_252 ?_
      refine x_iload_n C 280 1 dX9_count_280 rfl ?_
      exact x_iret2 C R 281 dX9_count_281
    · refine x_iload_n C 257 1 dX9_count_257 rfl ?_
      refine x_aload_n C 258 0 dX9_count_258 rfl ?_
      refine fg_row C 259 dX9_count_259 ?_
      refine x_bipush C 262 dX9_count_262 kb_50 ?_
      refine x_bipush C 264 dX9_count_264 kb_14 ?_
      refine x_iload_n C 266 2 dX9_count_266 rfl ?_
      refine x_imul C 267 dX9_count_267 ?_
      refine x_iadd C 268 dX9_count_268 ?_
      refine x_iconst C 269 dX9_count_269 ki_1 ?_
      refine x_iadd C 270 dX9_count_270 ?_
      refine x_iald C 271 (Nat.le_of_ble_eq_true rfl) (km_26 V _) dX9_count_271 (fun _ => ?_)
      refine x_iadd C 272 dX9_count_272 ?_
      refine x_istore_nt C 273 (fun v2_273 => [(2, .int v2_273), (0, .ref (zA (Zm V) 0)), (3, .int v3_252)]) dX9_count_273 rfl (hN _ (Nat.le_of_ble_eq_true rfl)) (fun _ => rfl) (fun v2_273 => ?_)
      refine x_iinct C 274 2 (1 : Int32) (fun v3_274 => [(3, .int v3_274), (2, .int v2_273), (0, .ref (zA (Zm V) 0))]) dX9_count_274 rfl ki_1 (hN _ (Nat.le_of_ble_eq_true rfl)) (fun _ => rfl) (fun v3_274 => ?_)
      refine x_goto C 277 252 dX9_count_277 (by decide) ?_
      refine Y_sub [2, 1, 0] rfl ?_
      exact x_back (v2_273, v3_274) (hb252 (v2_273, v3_274))
  refine Y_ite (fun c7 => ?_) (fun c7_17 => ?_)
  · refine x_tswIn C 7 282 (17 : Int32) c7 dX9_count_7 (by decide) (by decide) rfl (by decide) ?_
    refine x_aload_n C 282 1 dX9_count_282 rfl ?_
    refine x_aload_n C 283 1 dX9_count_283 rfl ?_
    refine fg_row C 284 dX9_count_284 ?_
    refine x_iconst C 287 dX9_count_287 ki_2 ?_
    refine x_iald C 288 (Nat.le_of_ble_eq_true rfl) (km_26 V _) dX9_count_288 (fun _ => ?_)
    refine x_bipush C 289 dX9_count_289 kb_7 ?_
    refine Y_bnd2 (fun r291 s_291 h291 => ?_)
    refine x_callVi C 291 [.int (gI s_1 26 (ix (2 : Int32))), .int (7 : Int32)] [] rfl tw_1925 mv_X9_copy (Nat.le_of_ble_eq_true rfl) (Nat.le_of_ble_eq_true rfl) (Nat.le_of_ble_eq_true rfl) (Nat.le_of_ble_eq_true rfl) (km_0 V _) rfl dX9_count_291 (c_X9_copy V _ _ _ _ h291) ?_
    exact x_iret2 C R 294 dX9_count_294
  refine Y_ite (fun c7 => ?_) (fun c7_18 => ?_)
  · refine x_tswIn C 7 295 (18 : Int32) c7 dX9_count_7 (by decide) (by decide) rfl (by decide) ?_
    refine x_aload_n C 295 1 dX9_count_295 rfl ?_
    refine x_aload_n C 296 1 dX9_count_296 rfl ?_
    refine fg_row C 297 dX9_count_297 ?_
    refine x_iconst C 300 dX9_count_300 ki_2 ?_
    refine x_iald C 301 (Nat.le_of_ble_eq_true rfl) (km_26 V _) dX9_count_301 (fun _ => ?_)
    refine x_bipush C 302 dX9_count_302 kb_8 ?_
    refine Y_bnd2 (fun r304 s_304 h304 => ?_)
    refine x_callVi C 304 [.int (gI s_1 26 (ix (2 : Int32))), .int (8 : Int32)] [] rfl tw_1925 mv_X9_copy (Nat.le_of_ble_eq_true rfl) (Nat.le_of_ble_eq_true rfl) (Nat.le_of_ble_eq_true rfl) (Nat.le_of_ble_eq_true rfl) (km_0 V _) rfl dX9_count_304 (c_X9_copy V _ _ _ _ h304) ?_
    exact x_iret2 C R 307 dX9_count_307
  · refine x_tswOut C 7 308 [(0 : Int32), (1 : Int32), (2 : Int32), (3 : Int32), (4 : Int32), (5 : Int32), (6 : Int32), (7 : Int32), (8 : Int32), (9 : Int32), (10 : Int32), (11 : Int32), (12 : Int32), (13 : Int32), (14 : Int32), (15 : Int32), (16 : Int32), (17 : Int32), (18 : Int32)] dX9_count_7 (by decide) (List.forall_mem_cons.mpr ⟨c7_0, (List.forall_mem_cons.mpr ⟨c7_1, (List.forall_mem_cons.mpr ⟨c7_2, (List.forall_mem_cons.mpr ⟨c7_3, (List.forall_mem_cons.mpr ⟨c7_4, (List.forall_mem_cons.mpr ⟨c7_5, (List.forall_mem_cons.mpr ⟨c7_6, (List.forall_mem_cons.mpr ⟨c7_7, (List.forall_mem_cons.mpr ⟨c7_8, (List.forall_mem_cons.mpr ⟨c7_9, (List.forall_mem_cons.mpr ⟨c7_10, (List.forall_mem_cons.mpr ⟨c7_11, (List.forall_mem_cons.mpr ⟨c7_12, (List.forall_mem_cons.mpr ⟨c7_13, (List.forall_mem_cons.mpr ⟨c7_14, (List.forall_mem_cons.mpr ⟨c7_15, (List.forall_mem_cons.mpr ⟨c7_16, (List.forall_mem_cons.mpr ⟨c7_17, (List.forall_mem_cons.mpr ⟨c7_18, (List.forall_mem_nil _)⟩)⟩)⟩)⟩)⟩)⟩)⟩)⟩)⟩)⟩)⟩)⟩)⟩)⟩)⟩)⟩)⟩)⟩)⟩) (by decide) ?_
    refine x_iconst C 308 dX9_count_308 ki_m1 ?_
    exact x_iret2 C R 309 dX9_count_309
