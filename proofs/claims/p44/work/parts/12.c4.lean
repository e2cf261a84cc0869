/-! the class's methods: programs and contracts -/
def M_X8_cell (σ : Wd) (v1 : Int32) (v2 : Int32) (v3 : Int32) : Option (Int32 × Wd) :=
  bnd1 (M_X8_isCopy σ v1) fun r2 => if r2 = 0 then (some ((0 : Int32), σ)) else (bnd1 (M_X8_isCell σ v2) fun r10 => if r10 ≠ 0 then (chk (famT (gR σ 0 4)) (bnd1 (M_X4_play σ 108 (gR σ 0 4) v1) fun s_31 => if v3 = 0 then (bnd1 (M_X4_lastOf s_31 108 v2) fun r62 => some (r62, s_31)) else (bnd1 (M_X1_knownOf s_31 v1) fun r48 => bnd1 (M_X4_cellBehind s_31 108 v2 r48) fun r51 => some (r51, s_31)))) else (some ((0 : Int32), σ)))
set_option maxRecDepth 100000 in
set_option maxHeartbeats 4000000 in
theorem c_X8_cell (V : Ct_V) (l : Launch) (σ : Wd) (v1 : Int32) (v2 : Int32) (v3 : Int32) {r : Int32} {σ2 : Wd} (h : M_X8_cell σ v1 v2 v3 = some (r, σ2)) : Ct l (Zc V) yX8_cell cX8_cell 4 (some .int) 4 108 [.ref (zA (Zc V) 0), .int v1, .int v2, .int v3] σ (some (.int r)) σ2 := by
  refine Ct_intro (own := RX8) zc_ok (by decide +kernel) rfl (Nat.le_of_ble_eq_true rfl) [(0, .ref (zA (Zc V) 0)), (1, .int v1), (2, .int v2), (3, .int v3)] rfl (fun K C R hKl hnL => ?_)
  have hN := nl_of hnL
  subst hKl
  refine Y_end h ?_
  unfold M_X8_cell
  refine x_aload_n C 0 0 dX8_cell_0 rfl ?_
  refine x_iload_n C 1 1 dX8_cell_1 rfl ?_
  refine Y_bnd1 (fun r2 h2 => ?_)
  refine x_callVi C 2 [.int v1] [] rfl tw_637 mv_X8_isCopy (Nat.le_of_ble_eq_true rfl) (Nat.le_of_ble_eq_true rfl) (Nat.le_of_ble_eq_true rfl) (Nat.le_of_ble_eq_true rfl) (kc_0 V _) rfl dX8_cell_2 (c_X8_isCopy V _ _ _ h2) ?_
  refine x_if_eq C 5 16 dX8_cell_5 (by decide) (fun _ => ?_) (fun _ => ?_)
  · refine x_iconst C 16 dX8_cell_16 ki_0 ?_
    exact x_iret2 C R 17 dX8_cell_17
  · refine x_aload_n C 8 0 dX8_cell_8 rfl ?_
    refine x_iload_n C 9 2 dX8_cell_9 rfl ?_
    refine Y_bnd1 (fun r10 h10 => ?_)
    refine x_callVi C 10 [.int v2] [] rfl tw_736 mv_X8_isCell (Nat.le_of_ble_eq_true rfl) (Nat.le_of_ble_eq_true rfl) (Nat.le_of_ble_eq_true rfl) (Nat.le_of_ble_eq_true rfl) (kc_0 V _) rfl dX8_cell_10 (c_X8_isCell V _ _ _ h10) ?_
    refine x_if_ne C 13 18 dX8_cell_13 (by decide) (fun _ => ?_) (fun _ => ?_)
    · refine x_aload_n C 18 0 dX8_cell_18 rfl ?_
      refine fgc_X8_64 C 19 dX8_cell_19 ?_
      refine x_aload_n C 22 0 dX8_cell_22 rfl ?_
      refine fgc_X8_23 C 23 dX8_cell_23 ?_
      refine Y_chk (fun hf23 => ?_)
      refine x_aload_n C 26 0 dX8_cell_26 rfl ?_
      refine fgc_X8_42 C 27 dX8_cell_27 ?_
      refine x_iload_n C 30 1 dX8_cell_30 rfl ?_
      refine Y_bnd1 (fun s_31 h31 => ?_)
      refine x_callVv C 31 [.ref (zA (Zc V) (gR σ 0 4)), .ref (zA (Zc V) 28), .int v1] [] rfl tw_744 mv_X4_play (Nat.le_of_ble_eq_true rfl) (Nat.le_of_ble_eq_true rfl) (Nat.le_of_ble_eq_true rfl) (ltP_0 (by decide)) (kP_0 V (by decide) _) rfl dX8_cell_31 (c_X4_play V _ _ _ (by decide) _ hf23 _ h31) ?_
      refine x_iload_n C 34 3 dX8_cell_34 rfl ?_
      refine x_if_eq C 35 57 dX8_cell_35 (by decide) (fun _ => ?_) (fun _ => ?_)
      · refine x_aload_n C 57 0 dX8_cell_57 rfl ?_
        refine fgc_X8_64 C 58 dX8_cell_58 ?_
        refine x_iload_n C 61 2 dX8_cell_61 rfl ?_
        refine Y_bnd1 (fun r62 h62 => ?_)
        refine x_callVi C 62 [.int v2] [] rfl tw_772 mv_X4_lastOf (Nat.le_of_ble_eq_true rfl) (Nat.le_of_ble_eq_true rfl) (Nat.le_of_ble_eq_true rfl) (ltP_0 (by decide)) (kP_0 V (by decide) _) rfl dX8_cell_62 (c_X4_lastOf V _ _ _ (by decide) _ h62) ?_
        exact x_iret2 C R 65 dX8_cell_65
      · refine x_aload_n C 38 0 dX8_cell_38 rfl ?_
        refine fgc_X8_64 C 39 dX8_cell_39 ?_
        refine x_iload_n C 42 2 dX8_cell_42 rfl ?_
        refine x_aload_n C 43 0 dX8_cell_43 rfl ?_
        refine fgc_X8_42 C 44 dX8_cell_44 ?_
        refine x_iload_n C 47 1 dX8_cell_47 rfl ?_
        refine Y_bnd1 (fun r48 h48 => ?_)
        refine x_callVi C 48 [.int v1] [.int v2, .ref (zA (Zc V) 108)] rfl tw_830 mv_X1_knownOf (Nat.le_of_ble_eq_true rfl) (Nat.le_of_ble_eq_true rfl) (Nat.le_of_ble_eq_true rfl) (Nat.le_of_ble_eq_true rfl) (kc_28 V _) rfl dX8_cell_48 (c_X1_knownOf V _ _ _ h48) ?_
        refine Y_bnd1 (fun r51 h51 => ?_)
        refine x_callVi C 51 [.int v2, .int r48] [] rfl tw_873 mv_X4_cellBehind (Nat.le_of_ble_eq_true rfl) (Nat.le_of_ble_eq_true rfl) (Nat.le_of_ble_eq_true rfl) (ltP_0 (by decide)) (kP_0 V (by decide) _) rfl dX8_cell_51 (c_X4_cellBehind V _ _ _ (by decide) _ _ h51) ?_
        refine x_goto C 54 65 dX8_cell_54 (by decide) ?_
        exact x_iret2 C R 65 dX8_cell_65
    · refine x_iconst C 16 dX8_cell_16 ki_0 ?_
      exact x_iret2 C R 17 dX8_cell_17
def M_X8_log (σ : Wd) (v1 : Int32) (v2 : Int32) : Option (Int32 × Wd) :=
  bnd1 (M_X8_isCopy σ v1) fun r2 => if r2 = 0 then (some ((-1 : Int32), σ)) else (if 0 ≤ v2 then (bnd1 (M_X4_line σ 108 v1) fun s_23 => if (gI s_23 108 2) ≤ v2 then (some ((-1 : Int32), s_23)) else (chk (ib v2 60) (some ((gI s_23 (108 + 3) (ix v2)), s_23)))) else (some ((-1 : Int32), σ)))
set_option maxRecDepth 100000 in
set_option maxHeartbeats 4000000 in
theorem c_X8_log (V : Ct_V) (l : Launch) (σ : Wd) (v1 : Int32) (v2 : Int32) {r : Int32} {σ2 : Wd} (h : M_X8_log σ v1 v2 = some (r, σ2)) : Ct l (Zc V) yX8_log cX8_log 3 (some .int) 3 73 [.ref (zA (Zc V) 0), .int v1, .int v2] σ (some (.int r)) σ2 := by
  refine Ct_intro (own := RX8) zc_ok (by decide +kernel) rfl (Nat.le_of_ble_eq_true rfl) [(0, .ref (zA (Zc V) 0)), (1, .int v1), (2, .int v2)] rfl (fun K C R hKl hnL => ?_)
  have hN := nl_of hnL
  subst hKl
  refine Y_end h ?_
  unfold M_X8_log
  refine x_aload_n C 0 0 dX8_log_0 rfl ?_
  refine x_iload_n C 1 1 dX8_log_1 rfl ?_
  refine Y_bnd1 (fun r2 h2 => ?_)
  refine x_callVi C 2 [.int v1] [] rfl tw_637 mv_X8_isCopy (Nat.le_of_ble_eq_true rfl) (Nat.le_of_ble_eq_true rfl) (Nat.le_of_ble_eq_true rfl) (Nat.le_of_ble_eq_true rfl) (kc_0 V _) rfl dX8_log_2 (c_X8_isCopy V _ _ _ h2) ?_
  refine x_if_eq C 5 12 dX8_log_5 (by decide) (fun _ => ?_) (fun _ => ?_)
  · refine x_iconst C 12 dX8_log_12 ki_m1 ?_
    exact x_iret2 C R 13 dX8_log_13
  · refine x_iload_n C 8 2 dX8_log_8 rfl ?_
    refine x_if_ge C 9 14 dX8_log_9 (by decide) (fun _ => ?_) (fun _ => ?_)
    · refine x_aload_n C 14 0 dX8_log_14 rfl ?_
      refine fgc_X8_64 C 15 dX8_log_15 ?_
      refine x_aload_n C 18 0 dX8_log_18 rfl ?_
      refine fgc_X8_42 C 19 dX8_log_19 ?_
      refine x_iload_n C 22 1 dX8_log_22 rfl ?_
      refine Y_bnd1 (fun s_23 h23 => ?_)
      refine x_callVv C 23 [.ref (zA (Zc V) 28), .int v1] [] rfl tw_878 mv_X4_line (Nat.le_of_ble_eq_true rfl) (Nat.le_of_ble_eq_true rfl) (Nat.le_of_ble_eq_true rfl) (ltP_0 (by decide)) (kP_0 V (by decide) _) rfl dX8_log_23 (c_X4_line V _ _ _ (by decide) _ h23) ?_
      refine x_iload_n C 26 2 dX8_log_26 rfl ?_
      refine x_aload_n C 27 0 dX8_log_27 rfl ?_
      refine fgc_X8_64 C 28 dX8_log_28 ?_
      refine fgf_X8_206 (by decide) C 31 dX8_log_31 ?_
      refine x_icmp_ge C 34 49 dX8_log_34 (by decide) (fun _ => ?_) (fun _ => ?_)
      · refine x_iconst C 49 dX8_log_49 ki_m1 ?_
        exact x_iret2 C R 50 dX8_log_50
      · refine x_aload_n C 37 0 dX8_log_37 rfl ?_
        refine fgc_X8_64 C 38 dX8_log_38 ?_
        refine fgf_X8_209 (by decide) C 41 dX8_log_41 ?_
        refine x_iload_n C 44 2 dX8_log_44 rfl ?_
        refine x_iald C 45 (ltP_3 (by decide)) (kP_3 V (by decide) _) dX8_log_45 (fun _ => ?_)
        refine x_goto C 46 50 dX8_log_46 (by decide) ?_
        exact x_iret2 C R 50 dX8_log_50
    · refine x_iconst C 12 dX8_log_12 ki_m1 ?_
      exact x_iret2 C R 13 dX8_log_13
def M_X8_isWrite (σ : Wd) (v1 : Int32) : Option Int32 :=
  if v1 < 0 then (some (0 : Int32)) else (bnd1 (M_X1_writes σ) fun r9 => if r9 ≤ v1 then (some (0 : Int32)) else (some (1 : Int32)))
set_option maxRecDepth 100000 in
set_option maxHeartbeats 4000000 in
theorem c_X8_isWrite (V : Ct_V) (l : Launch) (σ : Wd) (v1 : Int32) {r : Int32} (h : M_X8_isWrite σ v1 = some r) : Ct l (Zc V) yX8_isWrite cX8_isWrite 2 (some .boolean) 1 20 [.ref (zA (Zc V) 0), .int v1] σ (some (.int r)) σ := by
  refine Ct_intro (own := RX8) zc_ok (by decide +kernel) rfl (Nat.le_of_ble_eq_true rfl) [(0, .ref (zA (Zc V) 0)), (1, .int v1)] rfl (fun K C R hKl hnL => ?_)
  have hN := nl_of hnL
  subst hKl
  refine Y_end h ?_
  unfold M_X8_isWrite
  refine x_iload_n C 0 1 dX8_isWrite_0 rfl ?_
  refine x_if_lt C 1 19 dX8_isWrite_1 (by decide) (fun _ => ?_) (fun _ => ?_)
  · refine x_iconst C 19 dX8_isWrite_19 ki_0 ?_
    exact x_zret1 C R 20 (zb_nar (r := (0 : Int32)) (Or.inl rfl)) dX8_isWrite_20
  · refine x_iload_n C 4 1 dX8_isWrite_4 rfl ?_
    refine x_aload_n C 5 0 dX8_isWrite_5 rfl ?_
    refine fgc_X8_42 C 6 dX8_isWrite_6 ?_
    refine Y_bnd1 (fun r9 h9 => ?_)
    refine x_callVi C 9 [] [.int v1] rfl tw_689 mv_X1_writes (Nat.le_of_ble_eq_true rfl) (Nat.le_of_ble_eq_true rfl) (Nat.le_of_ble_eq_true rfl) (Nat.le_of_ble_eq_true rfl) (kc_28 V _) rfl dX8_isWrite_9 (c_X1_writes V _ _  h9) ?_
    refine x_icmp_ge C 12 19 dX8_isWrite_12 (by decide) (fun _ => ?_) (fun _ => ?_)
    · refine x_iconst C 19 dX8_isWrite_19 ki_0 ?_
      exact x_zret1 C R 20 (zb_nar (r := (0 : Int32)) (Or.inl rfl)) dX8_isWrite_20
    · refine x_iconst C 15 dX8_isWrite_15 ki_1 ?_
      refine x_goto C 16 20 dX8_isWrite_16 (by decide) ?_
      exact x_zret1 C R 20 (zb_nar (r := (1 : Int32)) (Or.inr rfl)) dX8_isWrite_20
def M_X8_outcome (σ : Wd) (v1 : Int32) (v2 : Int32) : Option (Int32 × Wd) :=
  bnd1 (M_X8_isCopy σ v1) fun r2 => if r2 = 0 then (some ((-1 : Int32), σ)) else (bnd1 (M_X8_isWrite σ v2) fun r10 => if r10 ≠ 0 then (bnd1 (M_X1_hasIt σ v1 v2) fun r24 => if r24 ≠ 0 then (chk (famT (gR σ 0 4)) (bnd1 (M_X4_play σ 108 (gR σ 0 4) v1) fun s_46 => bnd1 (M_X4_placeOf s_46 108 v2) fun r58 => bnd1 (M_X4_outcomeAt s_46 108 r58) fun r61 => some (r61, s_46))) else (some ((-2 : Int32), σ))) else (some ((-1 : Int32), σ)))
set_option maxRecDepth 100000 in
set_option maxHeartbeats 4000000 in
theorem c_X8_outcome (V : Ct_V) (l : Launch) (σ : Wd) (v1 : Int32) (v2 : Int32) {r : Int32} {σ2 : Wd} (h : M_X8_outcome σ v1 v2 = some (r, σ2)) : Ct l (Zc V) yX8_outcome cX8_outcome 3 (some .int) 4 108 [.ref (zA (Zc V) 0), .int v1, .int v2] σ (some (.int r)) σ2 := by
  refine Ct_intro (own := RX8) zc_ok (by decide +kernel) rfl (Nat.le_of_ble_eq_true rfl) [(0, .ref (zA (Zc V) 0)), (1, .int v1), (2, .int v2)] rfl (fun K C R hKl hnL => ?_)
  have hN := nl_of hnL
  subst hKl
  refine Y_end h ?_
  unfold M_X8_outcome
  refine x_aload_n C 0 0 dX8_outcome_0 rfl ?_
  refine x_iload_n C 1 1 dX8_outcome_1 rfl ?_
  refine Y_bnd1 (fun r2 h2 => ?_)
  refine x_callVi C 2 [.int v1] [] rfl tw_637 mv_X8_isCopy (Nat.le_of_ble_eq_true rfl) (Nat.le_of_ble_eq_true rfl) (Nat.le_of_ble_eq_true rfl) (Nat.le_of_ble_eq_true rfl) (kc_0 V _) rfl dX8_outcome_2 (c_X8_isCopy V _ _ _ h2) ?_
  refine x_if_eq C 5 16 dX8_outcome_5 (by decide) (fun _ => ?_) (fun _ => ?_)
  · refine x_iconst C 16 dX8_outcome_16 ki_m1 ?_
    exact x_iret2 C R 17 dX8_outcome_17
  · refine x_aload_n C 8 0 dX8_outcome_8 rfl ?_
    refine x_iload_n C 9 2 dX8_outcome_9 rfl ?_
    refine Y_bnd1 (fun r10 h10 => ?_)
    refine x_callVi C 10 [.int v2] [] rfl tw_883 mv_X8_isWrite (Nat.le_of_ble_eq_true rfl) (Nat.le_of_ble_eq_true rfl) (Nat.le_of_ble_eq_true rfl) (Nat.le_of_ble_eq_true rfl) (kc_0 V _) rfl dX8_outcome_10 (c_X8_isWrite V _ _ _ h10) ?_
    refine x_if_ne C 13 18 dX8_outcome_13 (by decide) (fun _ => ?_) (fun _ => ?_)
    · refine x_aload_n C 18 0 dX8_outcome_18 rfl ?_
      refine fgc_X8_42 C 19 dX8_outcome_19 ?_
      refine x_iload_n C 22 1 dX8_outcome_22 rfl ?_
      refine x_iload_n C 23 2 dX8_outcome_23 rfl ?_
      refine Y_bnd1 (fun r24 h24 => ?_)
      refine x_callVi C 24 [.int v1, .int v2] [] rfl tw_887 mv_X1_hasIt (Nat.le_of_ble_eq_true rfl) (Nat.le_of_ble_eq_true rfl) (Nat.le_of_ble_eq_true rfl) (Nat.le_of_ble_eq_true rfl) (kc_28 V _) rfl dX8_outcome_24 (c_X1_hasIt V _ _ _ _ h24) ?_
      refine x_if_ne C 27 33 dX8_outcome_27 (by decide) (fun _ => ?_) (fun _ => ?_)
      · refine x_aload_n C 33 0 dX8_outcome_33 rfl ?_
        refine fgc_X8_64 C 34 dX8_outcome_34 ?_
        refine x_aload_n C 37 0 dX8_outcome_37 rfl ?_
        refine fgc_X8_23 C 38 dX8_outcome_38 ?_
        refine Y_chk (fun hf38 => ?_)
        refine x_aload_n C 41 0 dX8_outcome_41 rfl ?_
        refine fgc_X8_42 C 42 dX8_outcome_42 ?_
        refine x_iload_n C 45 1 dX8_outcome_45 rfl ?_
        refine Y_bnd1 (fun s_46 h46 => ?_)
        refine x_callVv C 46 [.ref (zA (Zc V) (gR σ 0 4)), .ref (zA (Zc V) 28), .int v1] [] rfl tw_744 mv_X4_play (Nat.le_of_ble_eq_true rfl) (Nat.le_of_ble_eq_true rfl) (Nat.le_of_ble_eq_true rfl) (ltP_0 (by decide)) (kP_0 V (by decide) _) rfl dX8_outcome_46 (c_X4_play V _ _ _ (by decide) _ hf38 _ h46) ?_
        refine x_aload_n C 49 0 dX8_outcome_49 rfl ?_
        refine fgc_X8_64 C 50 dX8_outcome_50 ?_
        refine x_aload_n C 53 0 dX8_outcome_53 rfl ?_
        refine fgc_X8_64 C 54 dX8_outcome_54 ?_
        refine x_iload_n C 57 2 dX8_outcome_57 rfl ?_
        refine Y_bnd1 (fun r58 h58 => ?_)
        refine x_callVi C 58 [.int v2] [.ref (zA (Zc V) 108)] rfl tw_888 mv_X4_placeOf (Nat.le_of_ble_eq_true rfl) (Nat.le_of_ble_eq_true rfl) (Nat.le_of_ble_eq_true rfl) (ltP_0 (by decide)) (kP_0 V (by decide) _) rfl dX8_outcome_58 (c_X4_placeOf V _ _ _ (by decide) _ h58) ?_
        refine Y_bnd1 (fun r61 h61 => ?_)
        refine x_callVi C 61 [.int r58] [] rfl tw_892 mv_X4_outcomeAt (Nat.le_of_ble_eq_true rfl) (Nat.le_of_ble_eq_true rfl) (Nat.le_of_ble_eq_true rfl) (ltP_0 (by decide)) (kP_0 V (by decide) _) rfl dX8_outcome_61 (c_X4_outcomeAt V _ _ _ (by decide) _ h61) ?_
        exact x_iret2 C R 64 dX8_outcome_64
      · refine x_bipush C 30 dX8_outcome_30 kb_m2 ?_
        exact x_iret2 C R 32 dX8_outcome_32
    · refine x_iconst C 16 dX8_outcome_16 ki_m1 ?_
      exact x_iret2 C R 17 dX8_outcome_17
def M_X8_write (σ : Wd) (v1 : Int32) (v2 : Int32) : Option Int32 :=
  bnd1 (M_X8_isWrite σ v1) fun r2 => if r2 ≠ 0 then (if v2 = (0 : Int32) then (chk (ib v1 60) (some (gI σ 30 (ix v1)))) else (if v2 = (1 : Int32) then (chk (ib v1 60) (some (gI σ 32 (ix v1)))) else (if v2 = (2 : Int32) then (chk (ib v1 60) (some (gI σ 33 (ix v1)))) else (if v2 = (3 : Int32) then (bnd1 (M_X1_placeInOrder σ v1) fun r83 => some r83) else (if v2 = (4 : Int32) then (bnd1 (M_X1_holders σ v1) fun r92 => some r92) else (if v2 = (5 : Int32) then (bnd1 (M_X1_knowers σ v1) fun r101 => some r101) else (some (-1 : Int32)))))))) else (some (-1 : Int32))
set_option maxRecDepth 100000 in
set_option maxHeartbeats 4000000 in
theorem c_X8_write (V : Ct_V) (l : Launch) (σ : Wd) (v1 : Int32) (v2 : Int32) {r : Int32} (h : M_X8_write σ v1 v2 = some r) : Ct l (Zc V) yX8_write cX8_write 3 (some .int) 3 66 [.ref (zA (Zc V) 0), .int v1, .int v2] σ (some (.int r)) σ := by
  refine Ct_intro (own := RX8) zc_ok (by decide +kernel) rfl (Nat.le_of_ble_eq_true rfl) [(0, .ref (zA (Zc V) 0)), (1, .int v1), (2, .int v2)] rfl (fun K C R hKl hnL => ?_)
  have hN := nl_of hnL
  subst hKl
  refine Y_end h ?_
  unfold M_X8_write
  refine x_aload_n C 0 0 dX8_write_0 rfl ?_
  refine x_iload_n C 1 1 dX8_write_1 rfl ?_
  refine Y_bnd1 (fun r2 h2 => ?_)
  refine x_callVi C 2 [.int v1] [] rfl tw_883 mv_X8_isWrite (Nat.le_of_ble_eq_true rfl) (Nat.le_of_ble_eq_true rfl) (Nat.le_of_ble_eq_true rfl) (Nat.le_of_ble_eq_true rfl) (kc_0 V _) rfl dX8_write_2 (c_X8_isWrite V _ _ _ h2) ?_
  refine x_if_ne C 5 10 dX8_write_5 (by decide) (fun _ => ?_) (fun _ => ?_)
  · refine x_iload_n C 10 2 dX8_write_10 rfl ?_
    refine Y_ite (fun c11 => ?_) (fun c11_0 => ?_)
    · refine x_tswIn C 11 48 (0 : Int32) c11 dX8_write_11 (by decide) (by decide) rfl (by decide) ?_
      refine x_aload_n C 48 0 dX8_write_48 rfl ?_
      refine fgc_X8_42 C 49 dX8_write_49 ?_
      refine fgc_X8_225 C 52 dX8_write_52 ?_
      refine x_iload_n C 55 1 dX8_write_55 rfl ?_
      refine x_iald C 56 (Nat.le_of_ble_eq_true rfl) (kc_30 V _) dX8_write_56 (fun _ => ?_)
      exact x_iret1 C R 57 dX8_write_57
    refine Y_ite (fun c11 => ?_) (fun c11_1 => ?_)
    · refine x_tswIn C 11 58 (1 : Int32) c11 dX8_write_11 (by decide) (by decide) rfl (by decide) ?_
      refine x_aload_n C 58 0 dX8_write_58 rfl ?_
      refine fgc_X8_42 C 59 dX8_write_59 ?_
      refine fgc_X8_228 C 62 dX8_write_62 ?_
      refine x_iload_n C 65 1 dX8_write_65 rfl ?_
      refine x_iald C 66 (Nat.le_of_ble_eq_true rfl) (kc_32 V _) dX8_write_66 (fun _ => ?_)
      exact x_iret1 C R 67 dX8_write_67
    refine Y_ite (fun c11 => ?_) (fun c11_2 => ?_)
    · refine x_tswIn C 11 68 (2 : Int32) c11 dX8_write_11 (by decide) (by decide) rfl (by decide) ?_
      refine x_aload_n C 68 0 dX8_write_68 rfl ?_
      refine fgc_X8_42 C 69 dX8_write_69 ?_
      refine fgc_X8_231 C 72 dX8_write_72 ?_
      refine x_iload_n C 75 1 dX8_write_75 rfl ?_
      refine x_iald C 76 (Nat.le_of_ble_eq_true rfl) (kc_33 V _) dX8_write_76 (fun _ => ?_)
      exact x_iret1 C R 77 dX8_write_77
    refine Y_ite (fun c11 => ?_) (fun c11_3 => ?_)
    · refine x_tswIn C 11 78 (3 : Int32) c11 dX8_write_11 (by decide) (by decide) rfl (by decide) ?_
      refine x_aload_n C 78 0 dX8_write_78 rfl ?_
      refine fgc_X8_42 C 79 dX8_write_79 ?_
      refine x_iload_n C 82 1 dX8_write_82 rfl ?_
      refine Y_bnd1 (fun r83 h83 => ?_)
      refine x_callVi C 83 [.int v1] [] rfl tw_900 mv_X1_placeInOrder (Nat.le_of_ble_eq_true rfl) (Nat.le_of_ble_eq_true rfl) (Nat.le_of_ble_eq_true rfl) (Nat.le_of_ble_eq_true rfl) (kc_28 V _) rfl dX8_write_83 (c_X1_placeInOrder V _ _ _ h83) ?_
      exact x_iret1 C R 86 dX8_write_86
    refine Y_ite (fun c11 => ?_) (fun c11_4 => ?_)
    · refine x_tswIn C 11 87 (4 : Int32) c11 dX8_write_11 (by decide) (by decide) rfl (by decide) ?_
      refine x_aload_n C 87 0 dX8_write_87 rfl ?_
      refine fgc_X8_42 C 88 dX8_write_88 ?_
      refine x_iload_n C 91 1 dX8_write_91 rfl ?_
      refine Y_bnd1 (fun r92 h92 => ?_)
      refine x_callVi C 92 [.int v1] [] rfl tw_904 mv_X1_holders (Nat.le_of_ble_eq_true rfl) (Nat.le_of_ble_eq_true rfl) (Nat.le_of_ble_eq_true rfl) (Nat.le_of_ble_eq_true rfl) (kc_28 V _) rfl dX8_write_92 (c_X1_holders V _ _ _ h92) ?_
      exact x_iret1 C R 95 dX8_write_95
    refine Y_ite (fun c11 => ?_) (fun c11_5 => ?_)
    · refine x_tswIn C 11 96 (5 : Int32) c11 dX8_write_11 (by decide) (by decide) rfl (by decide) ?_
      refine x_aload_n C 96 0 dX8_write_96 rfl ?_
      refine fgc_X8_42 C 97 dX8_write_97 ?_
      refine x_iload_n C 100 1 dX8_write_100 rfl ?_
      refine Y_bnd1 (fun r101 h101 => ?_)
      refine x_callVi C 101 [.int v1] [] rfl tw_908 mv_X1_knowers (Nat.le_of_ble_eq_true rfl) (Nat.le_of_ble_eq_true rfl) (Nat.le_of_ble_eq_true rfl) (Nat.le_of_ble_eq_true rfl) (kc_28 V _) rfl dX8_write_101 (c_X1_knowers V _ _ _ h101) ?_
      exact x_iret1 C R 104 dX8_write_104
    · refine x_tswOut C 11 105 [(0 : Int32), (1 : Int32), (2 : Int32), (3 : Int32), (4 : Int32), (5 : Int32)] dX8_write_11 (by decide) (List.forall_mem_cons.mpr ⟨c11_0, (List.forall_mem_cons.mpr ⟨c11_1, (List.forall_mem_cons.mpr ⟨c11_2, (List.forall_mem_cons.mpr ⟨c11_3, (List.forall_mem_cons.mpr ⟨c11_4, (List.forall_mem_cons.mpr ⟨c11_5, (List.forall_mem_nil _)⟩)⟩)⟩)⟩)⟩)⟩) (by decide) ?_
      refine x_iconst C 105 dX8_write_105 ki_m1 ?_
      exact x_iret1 C R 106 dX8_write_106
  · refine x_iconst C 8 dX8_write_8 ki_m1 ?_
    exact x_iret1 C R 9 dX8_write_9
def M_X8_with (σ : Wd) (v1 : Int32) : Option Int32 :=
  bnd1 (M_X8_isWrite σ v1) fun r2 => if r2 = 0 then (some (0 : Int32)) else (chk (ib v1 60) (some (gI σ 31 (ix v1))))
set_option maxRecDepth 100000 in
set_option maxHeartbeats 4000000 in
theorem c_X8_with (V : Ct_V) (l : Launch) (σ : Wd) (v1 : Int32) {r : Int32} (h : M_X8_with σ v1 = some r) : Ct l (Zc V) yX8_with cX8_with 2 (some .int) 2 41 [.ref (zA (Zc V) 0), .int v1] σ (some (.int r)) σ := by
  refine Ct_intro (own := RX8) zc_ok (by decide +kernel) rfl (Nat.le_of_ble_eq_true rfl) [(0, .ref (zA (Zc V) 0)), (1, .int v1)] rfl (fun K C R hKl hnL => ?_)
  have hN := nl_of hnL
  subst hKl
  refine Y_end h ?_
  unfold M_X8_with
  refine x_aload_n C 0 0 dX8_with_0 rfl ?_
  refine x_iload_n C 1 1 dX8_with_1 rfl ?_
  refine Y_bnd1 (fun r2 h2 => ?_)
  refine x_callVi C 2 [.int v1] [] rfl tw_883 mv_X8_isWrite (Nat.le_of_ble_eq_true rfl) (Nat.le_of_ble_eq_true rfl) (Nat.le_of_ble_eq_true rfl) (Nat.le_of_ble_eq_true rfl) (kc_0 V _) rfl dX8_with_2 (c_X8_isWrite V _ _ _ h2) ?_
  refine x_if_eq C 5 20 dX8_with_5 (by decide) (fun _ => ?_) (fun _ => ?_)
  · refine x_iconst C 20 dX8_with_20 ki_0 ?_
    exact x_iret1 C R 21 dX8_with_21
  · refine x_aload_n C 8 0 dX8_with_8 rfl ?_
    refine fgc_X8_42 C 9 dX8_with_9 ?_
    refine fgc_X8_243 C 12 dX8_with_12 ?_
    refine x_iload_n C 15 1 dX8_with_15 rfl ?_
    refine x_iald C 16 (Nat.le_of_ble_eq_true rfl) (kc_31 V _) dX8_with_16 (fun _ => ?_)
    refine x_goto C 17 21 dX8_with_17 (by decide) ?_
    exact x_iret1 C R 21 dX8_with_21
def M_X8_mergedOf (σ : Wd) (v1 : Int32) : Option (Int32 × Wd) :=
  chk (famT (gR σ 0 4)) (bnd1 (M_X4_play σ 108 (gR σ 0 4) v1) fun s_13 => bnd1 (M_X4_manyOf s_13 108 (1 : Int32)) fun r21 => some (r21, s_13))
set_option maxRecDepth 100000 in
set_option maxHeartbeats 4000000 in
theorem c_X8_mergedOf (V : Ct_V) (l : Launch) (σ : Wd) (v1 : Int32) {r : Int32} {σ2 : Wd} (h : M_X8_mergedOf σ v1 = some (r, σ2)) : Ct l (Zc V) yX8_mergedOf cX8_mergedOf 2 (some .int) 4 108 [.ref (zA (Zc V) 0), .int v1] σ (some (.int r)) σ2 := by
  refine Ct_intro (own := RX8) zc_ok (by decide +kernel) rfl (Nat.le_of_ble_eq_true rfl) [(0, .ref (zA (Zc V) 0)), (1, .int v1)] rfl (fun K C R hKl hnL => ?_)
  have hN := nl_of hnL
  subst hKl
  refine Y_end h ?_
  unfold M_X8_mergedOf
  refine x_aload_n C 0 0 dX8_mergedOf_0 rfl ?_
  refine fgc_X8_64 C 1 dX8_mergedOf_1 ?_
  refine x_aload_n C 4 0 dX8_mergedOf_4 rfl ?_
  refine fgc_X8_23 C 5 dX8_mergedOf_5 ?_
  refine Y_chk (fun hf5 => ?_)
  refine x_aload_n C 8 0 dX8_mergedOf_8 rfl ?_
  refine fgc_X8_42 C 9 dX8_mergedOf_9 ?_
  refine x_iload_n C 12 1 dX8_mergedOf_12 rfl ?_
  refine Y_bnd1 (fun s_13 h13 => ?_)
  refine x_callVv C 13 [.ref (zA (Zc V) (gR σ 0 4)), .ref (zA (Zc V) 28), .int v1] [] rfl tw_744 mv_X4_play (Nat.le_of_ble_eq_true rfl) (Nat.le_of_ble_eq_true rfl) (Nat.le_of_ble_eq_true rfl) (ltP_0 (by decide)) (kP_0 V (by decide) _) rfl dX8_mergedOf_13 (c_X4_play V _ _ _ (by decide) _ hf5 _ h13) ?_
  refine x_aload_n C 16 0 dX8_mergedOf_16 rfl ?_
  refine fgc_X8_64 C 17 dX8_mergedOf_17 ?_
  refine x_iconst C 20 dX8_mergedOf_20 ki_1 ?_
  refine Y_bnd1 (fun r21 h21 => ?_)
  refine x_callVi C 21 [.int (1 : Int32)] [] rfl tw_937 mv_X4_manyOf (Nat.le_of_ble_eq_true rfl) (Nat.le_of_ble_eq_true rfl) (Nat.le_of_ble_eq_true rfl) (ltP_0 (by decide)) (kP_0 V (by decide) _) rfl dX8_mergedOf_21 (c_X4_manyOf V _ _ _ (by decide) _ h21) ?_
  exact x_iret2 C R 24 dX8_mergedOf_24
def M_X8_idleOrStuckOf (σ : Wd) (v1 : Int32) : Option (Int32 × Wd) :=
  chk (famT (gR σ 0 4)) (bnd1 (M_X4_play σ 108 (gR σ 0 4) v1) fun s_13 => bnd1 (M_X4_manyOf s_13 108 (2 : Int32)) fun r21 => bnd1 (M_X4_manyOf s_13 108 (3 : Int32)) fun r29 => some ((r21 + r29), s_13))
set_option maxRecDepth 100000 in
set_option maxHeartbeats 4000000 in
theorem c_X8_idleOrStuckOf (V : Ct_V) (l : Launch) (σ : Wd) (v1 : Int32) {r : Int32} {σ2 : Wd} (h : M_X8_idleOrStuckOf σ v1 = some (r, σ2)) : Ct l (Zc V) yX8_idleOrStuckOf cX8_idleOrStuckOf 2 (some .int) 4 108 [.ref (zA (Zc V) 0), .int v1] σ (some (.int r)) σ2 := by
  refine Ct_intro (own := RX8) zc_ok (by decide +kernel) rfl (Nat.le_of_ble_eq_true rfl) [(0, .ref (zA (Zc V) 0)), (1, .int v1)] rfl (fun K C R hKl hnL => ?_)
  have hN := nl_of hnL
  subst hKl
  refine Y_end h ?_
  unfold M_X8_idleOrStuckOf
  refine x_aload_n C 0 0 dX8_idleOrStuckOf_0 rfl ?_
  refine fgc_X8_64 C 1 dX8_idleOrStuckOf_1 ?_
  refine x_aload_n C 4 0 dX8_idleOrStuckOf_4 rfl ?_
  refine fgc_X8_23 C 5 dX8_idleOrStuckOf_5 ?_
  refine Y_chk (fun hf5 => ?_)
  refine x_aload_n C 8 0 dX8_idleOrStuckOf_8 rfl ?_
  refine fgc_X8_42 C 9 dX8_idleOrStuckOf_9 ?_
  refine x_iload_n C 12 1 dX8_idleOrStuckOf_12 rfl ?_
  refine Y_bnd1 (fun s_13 h13 => ?_)
  refine x_callVv C 13 [.ref (zA (Zc V) (gR σ 0 4)), .ref (zA (Zc V) 28), .int v1] [] rfl tw_744 mv_X4_play (Nat.le_of_ble_eq_true rfl) (Nat.le_of_ble_eq_true rfl) (Nat.le_of_ble_eq_true rfl) (ltP_0 (by decide)) (kP_0 V (by decide) _) rfl dX8_idleOrStuckOf_13 (c_X4_play V _ _ _ (by decide) _ hf5 _ h13) ?_
  refine x_aload_n C 16 0 dX8_idleOrStuckOf_16 rfl ?_
  refine fgc_X8_64 C 17 dX8_idleOrStuckOf_17 ?_
  refine x_iconst C 20 dX8_idleOrStuckOf_20 ki_2 ?_
  refine Y_bnd1 (fun r21 h21 => ?_)
  refine x_callVi C 21 [.int (2 : Int32)] [] rfl tw_937 mv_X4_manyOf (Nat.le_of_ble_eq_true rfl) (Nat.le_of_ble_eq_true rfl) (Nat.le_of_ble_eq_true rfl) (ltP_0 (by decide)) (kP_0 V (by decide) _) rfl dX8_idleOrStuckOf_21 (c_X4_manyOf V _ _ _ (by decide) _ h21) ?_
  refine x_aload_n C 24 0 dX8_idleOrStuckOf_24 rfl ?_
  refine fgc_X8_64 C 25 dX8_idleOrStuckOf_25 ?_
  refine x_iconst C 28 dX8_idleOrStuckOf_28 ki_3 ?_
  refine Y_bnd1 (fun r29 h29 => ?_)
  refine x_callVi C 29 [.int (3 : Int32)] [.int r21] rfl tw_937 mv_X4_manyOf (Nat.le_of_ble_eq_true rfl) (Nat.le_of_ble_eq_true rfl) (Nat.le_of_ble_eq_true rfl) (ltP_0 (by decide)) (kP_0 V (by decide) _) rfl dX8_idleOrStuckOf_29 (c_X4_manyOf V _ _ _ (by decide) _ h29) ?_
  refine x_iadd C 32 dX8_idleOrStuckOf_32 ?_
  exact x_iret2 C R 33 dX8_idleOrStuckOf_33
def M_X8_copy (σ : Wd) (v1 : Int32) (v2 : Int32) : Option (Int32 × Wd) :=
  bnd1 (M_X8_isCopy σ v1) fun r2 => if r2 ≠ 0 then (if v2 = (0 : Int32) then (bnd1 (M_X1_clockOf σ v1) fun r65 => some (r65, σ)) else (if v2 = (1 : Int32) then (bnd1 (M_X1_setOf σ v1) fun r74 => bnd1 (M_J13_bitCount_95d88 r74) fun r77 => some (r77, σ)) else (if v2 = (2 : Int32) then (bnd1 (M_X1_knownOf σ v1) fun r86 => some (r86, σ)) else (if v2 = (3 : Int32) then (bnd1 (M_X1_copyNumber σ (16 : Int32) v1) fun r97 => some (r97, σ)) else (if v2 = (4 : Int32) then (bnd1 (M_X1_copyNumber σ (21 : Int32) v1) fun r108 => some (r108, σ)) else (if v2 = (5 : Int32) then (bnd1 (M_X1_copyNumber σ (26 : Int32) v1) fun r119 => some (r119, σ)) else (if v2 = (6 : Int32) then (bnd1 (M_X1_copyNumber σ (31 : Int32) v1) fun r130 => some (r130, σ)) else (if v2 = (7 : Int32) then (bnd2 (M_X8_mergedOf σ v1) fun r136 s_136 => some (r136, s_136)) else (if v2 = (8 : Int32) then (bnd2 (M_X8_idleOrStuckOf σ v1) fun r142 s_142 => some (r142, s_142)) else (some ((-1 : Int32), σ))))))))))) else (some ((-1 : Int32), σ))
set_option maxRecDepth 100000 in
set_option maxHeartbeats 4000000 in
theorem c_X8_copy (V : Ct_V) (l : Launch) (σ : Wd) (v1 : Int32) (v2 : Int32) {r : Int32} {σ2 : Wd} (h : M_X8_copy σ v1 v2 = some (r, σ2)) : Ct l (Zc V) yX8_copy cX8_copy 3 (some .int) 5 129 [.ref (zA (Zc V) 0), .int v1, .int v2] σ (some (.int r)) σ2 := by
  refine Ct_intro (own := RX8) zc_ok (by decide +kernel) rfl (Nat.le_of_ble_eq_true rfl) [(0, .ref (zA (Zc V) 0)), (1, .int v1), (2, .int v2)] rfl (fun K C R hKl hnL => ?_)
  have hN := nl_of hnL
  subst hKl
  refine Y_end h ?_
  unfold M_X8_copy
  refine x_aload_n C 0 0 dX8_copy_0 rfl ?_
  refine x_iload_n C 1 1 dX8_copy_1 rfl ?_
  refine Y_bnd1 (fun r2 h2 => ?_)
  refine x_callVi C 2 [.int v1] [] rfl tw_637 mv_X8_isCopy (Nat.le_of_ble_eq_true rfl) (Nat.le_of_ble_eq_true rfl) (Nat.le_of_ble_eq_true rfl) (Nat.le_of_ble_eq_true rfl) (kc_0 V _) rfl dX8_copy_2 (c_X8_isCopy V _ _ _ h2) ?_
  refine x_if_ne C 5 10 dX8_copy_5 (by decide) (fun _ => ?_) (fun _ => ?_)
  · refine x_iload_n C 10 2 dX8_copy_10 rfl ?_
    refine Y_ite (fun c11 => ?_) (fun c11_0 => ?_)
    · refine x_tswIn C 11 60 (0 : Int32) c11 dX8_copy_11 (by decide) (by decide) rfl (by decide) ?_
      refine x_aload_n C 60 0 dX8_copy_60 rfl ?_
      refine fgc_X8_42 C 61 dX8_copy_61 ?_
      refine x_iload_n C 64 1 dX8_copy_64 rfl ?_
      refine Y_bnd1 (fun r65 h65 => ?_)
      refine x_callVi C 65 [.int v1] [] rfl tw_921 mv_X1_clockOf (Nat.le_of_ble_eq_true rfl) (Nat.le_of_ble_eq_true rfl) (Nat.le_of_ble_eq_true rfl) (Nat.le_of_ble_eq_true rfl) (kc_28 V _) rfl dX8_copy_65 (c_X1_clockOf V _ _ _ h65) ?_
      exact x_iret2 C R 68 dX8_copy_68
    refine Y_ite (fun c11 => ?_) (fun c11_1 => ?_)
    · refine x_tswIn C 11 69 (1 : Int32) c11 dX8_copy_11 (by decide) (by decide) rfl (by decide) ?_
      refine x_aload_n C 69 0 dX8_copy_69 rfl ?_
      refine fgc_X8_42 C 70 dX8_copy_70 ?_
      refine x_iload_n C 73 1 dX8_copy_73 rfl ?_
      refine Y_bnd1 (fun r74 h74 => ?_)
      refine x_callVl C 74 [.int v1] [] rfl tw_922 mv_X1_setOf (Nat.le_of_ble_eq_true rfl) (Nat.le_of_ble_eq_true rfl) (Nat.le_of_ble_eq_true rfl) (Nat.le_of_ble_eq_true rfl) (kc_28 V _) rfl dX8_copy_74 (c_X1_setOf V _ _ _ h74) ?_
      refine Y_bnd1 (fun r77 h77 => ?_)
      refine x_callSi C 77 [.long r74] [] rfl tw_923 ms_J13_bitCount_95d88 (Nat.le_of_ble_eq_true rfl) (Nat.le_of_ble_eq_true rfl) (Nat.le_of_ble_eq_true rfl) dX8_copy_77 (c_J13_bitCount_95d88 V _ _ _ h77) ?_
      exact x_iret2 C R 80 dX8_copy_80
    refine Y_ite (fun c11 => ?_) (fun c11_2 => ?_)
    · refine x_tswIn C 11 81 (2 : Int32) c11 dX8_copy_11 (by decide) (by decide) rfl (by decide) ?_
      refine x_aload_n C 81 0 dX8_copy_81 rfl ?_
      refine fgc_X8_42 C 82 dX8_copy_82 ?_
      refine x_iload_n C 85 1 dX8_copy_85 rfl ?_
      refine Y_bnd1 (fun r86 h86 => ?_)
      refine x_callVi C 86 [.int v1] [] rfl tw_830 mv_X1_knownOf (Nat.le_of_ble_eq_true rfl) (Nat.le_of_ble_eq_true rfl) (Nat.le_of_ble_eq_true rfl) (Nat.le_of_ble_eq_true rfl) (kc_28 V _) rfl dX8_copy_86 (c_X1_knownOf V _ _ _ h86) ?_
      exact x_iret2 C R 89 dX8_copy_89
    refine Y_ite (fun c11 => ?_) (fun c11_3 => ?_)
    · refine x_tswIn C 11 90 (3 : Int32) c11 dX8_copy_11 (by decide) (by decide) rfl (by decide) ?_
      refine x_aload_n C 90 0 dX8_copy_90 rfl ?_
      refine fgc_X8_42 C 91 dX8_copy_91 ?_
      refine x_bipush C 94 dX8_copy_94 kb_16 ?_
      refine x_iload_n C 96 1 dX8_copy_96 rfl ?_
      refine Y_bnd1 (fun r97 h97 => ?_)
      refine x_callVi C 97 [.int (16 : Int32), .int v1] [] rfl tw_929 mv_X1_copyNumber (Nat.le_of_ble_eq_true rfl) (Nat.le_of_ble_eq_true rfl) (Nat.le_of_ble_eq_true rfl) (Nat.le_of_ble_eq_true rfl) (kc_28 V _) rfl dX8_copy_97 (c_X1_copyNumber V _ _ _ _ h97) ?_
      exact x_iret2 C R 100 dX8_copy_100
    refine Y_ite (fun c11 => ?_) (fun c11_4 => ?_)
    · refine x_tswIn C 11 101 (4 : Int32) c11 dX8_copy_11 (by decide) (by decide) rfl (by decide) ?_
      refine x_aload_n C 101 0 dX8_copy_101 rfl ?_
      refine fgc_X8_42 C 102 dX8_copy_102 ?_
      refine x_bipush C 105 dX8_copy_105 kb_21 ?_
      refine x_iload_n C 107 1 dX8_copy_107 rfl ?_
      refine Y_bnd1 (fun r108 h108 => ?_)
      refine x_callVi C 108 [.int (21 : Int32), .int v1] [] rfl tw_929 mv_X1_copyNumber (Nat.le_of_ble_eq_true rfl) (Nat.le_of_ble_eq_true rfl) (Nat.le_of_ble_eq_true rfl) (Nat.le_of_ble_eq_true rfl) (kc_28 V _) rfl dX8_copy_108 (c_X1_copyNumber V _ _ _ _ h108) ?_
      exact x_iret2 C R 111 dX8_copy_111
    refine Y_ite (fun c11 => ?_) (fun c11_5 => ?_)
    · refine x_tswIn C 11 112 (5 : Int32) c11 dX8_copy_11 (by decide) (by decide) rfl (by decide) ?_
      refine x_aload_n C 112 0 dX8_copy_112 rfl ?_
      refine fgc_X8_42 C 113 dX8_copy_113 ?_
      refine x_bipush C 116 dX8_copy_116 kb_26 ?_
      refine x_iload_n C 118 1 dX8_copy_118 rfl ?_
      refine Y_bnd1 (fun r119 h119 => ?_)
      refine x_callVi C 119 [.int (26 : Int32), .int v1] [] rfl tw_929 mv_X1_copyNumber (Nat.le_of_ble_eq_true rfl) (Nat.le_of_ble_eq_true rfl) (Nat.le_of_ble_eq_true rfl) (Nat.le_of_ble_eq_true rfl) (kc_28 V _) rfl dX8_copy_119 (c_X1_copyNumber V _ _ _ _ h119) ?_
      exact x_iret2 C R 122 dX8_copy_122
    refine Y_ite (fun c11 => ?_) (fun c11_6 => ?_)
    · refine x_tswIn C 11 123 (6 : Int32) c11 dX8_copy_11 (by decide) (by decide) rfl (by decide) ?_
      refine x_aload_n C 123 0 dX8_copy_123 rfl ?_
      refine fgc_X8_42 C 124 dX8_copy_124 ?_
      refine x_bipush C 127 dX8_copy_127 kb_31 ?_
      refine x_iload_n C 129 1 dX8_copy_129 rfl ?_
      refine Y_bnd1 (fun r130 h130 => ?_)
      refine x_callVi C 130 [.int (31 : Int32), .int v1] [] rfl tw_929 mv_X1_copyNumber (Nat.le_of_ble_eq_true rfl) (Nat.le_of_ble_eq_true rfl) (Nat.le_of_ble_eq_true rfl) (Nat.le_of_ble_eq_true rfl) (kc_28 V _) rfl dX8_copy_130 (c_X1_copyNumber V _ _ _ _ h130) ?_
      exact x_iret2 C R 133 dX8_copy_133
    refine Y_ite (fun c11 => ?_) (fun c11_7 => ?_)
    · refine x_tswIn C 11 134 (7 : Int32) c11 dX8_copy_11 (by decide) (by decide) rfl (by decide) ?_
      refine x_aload_n C 134 0 dX8_copy_134 rfl ?_
      refine x_iload_n C 135 1 dX8_copy_135 rfl ?_
      refine Y_bnd2 (fun r136 s_136 h136 => ?_)
      refine x_callVi C 136 [.int v1] [] rfl tw_933 mv_X8_mergedOf (Nat.le_of_ble_eq_true rfl) (Nat.le_of_ble_eq_true rfl) (Nat.le_of_ble_eq_true rfl) (Nat.le_of_ble_eq_true rfl) (kc_0 V _) rfl dX8_copy_136 (c_X8_mergedOf V _ _ _ h136) ?_
      exact x_iret2 C R 139 dX8_copy_139
    refine Y_ite (fun c11 => ?_) (fun c11_8 => ?_)
    · refine x_tswIn C 11 140 (8 : Int32) c11 dX8_copy_11 (by decide) (by decide) rfl (by decide) ?_
      refine x_aload_n C 140 0 dX8_copy_140 rfl ?_
      refine x_iload_n C 141 1 dX8_copy_141 rfl ?_
      refine Y_bnd2 (fun r142 s_142 h142 => ?_)
      refine x_callVi C 142 [.int v1] [] rfl tw_941 mv_X8_idleOrStuckOf (Nat.le_of_ble_eq_true rfl) (Nat.le_of_ble_eq_true rfl) (Nat.le_of_ble_eq_true rfl) (Nat.le_of_ble_eq_true rfl) (kc_0 V _) rfl dX8_copy_142 (c_X8_idleOrStuckOf V _ _ _ h142) ?_
      exact x_iret2 C R 145 dX8_copy_145
    · refine x_tswOut C 11 146 [(0 : Int32), (1 : Int32), (2 : Int32), (3 : Int32), (4 : Int32), (5 : Int32), (6 : Int32), (7 : Int32), (8 : Int32)] dX8_copy_11 (by decide) (List.forall_mem_cons.mpr ⟨c11_0, (List.forall_mem_cons.mpr ⟨c11_1, (List.forall_mem_cons.mpr ⟨c11_2, (List.forall_mem_cons.mpr ⟨c11_3, (List.forall_mem_cons.mpr ⟨c11_4, (List.forall_mem_cons.mpr ⟨c11_5, (List.forall_mem_cons.mpr ⟨c11_6, (List.forall_mem_cons.mpr ⟨c11_7, (List.forall_mem_cons.mpr ⟨c11_8, (List.forall_mem_nil _)⟩)⟩)⟩)⟩)⟩)⟩)⟩)⟩)⟩) (by decide) ?_
      refine x_iconst C 146 dX8_copy_146 ki_m1 ?_
      exact x_iret2 C R 147 dX8_copy_147
  · refine x_iconst C 8 dX8_copy_8 ki_m1 ?_
    exact x_iret2 C R 9 dX8_copy_9
def M_X8_vector (σ : Wd) (v1 : Int32) (v2 : Int32) : Option Int32 :=
  bnd1 (M_X8_isCopy σ v1) fun r2 => if r2 = 0 then (some (-1 : Int32)) else (bnd1 (M_X8_isCopy σ v2) fun r10 => if r10 = 0 then (some (-1 : Int32)) else (bnd1 (M_X1_vectorOf σ v1 v2) fun r22 => some r22))
set_option maxRecDepth 100000 in
set_option maxHeartbeats 4000000 in
theorem c_X8_vector (V : Ct_V) (l : Launch) (σ : Wd) (v1 : Int32) (v2 : Int32) {r : Int32} (h : M_X8_vector σ v1 v2 = some r) : Ct l (Zc V) yX8_vector cX8_vector 3 (some .int) 3 66 [.ref (zA (Zc V) 0), .int v1, .int v2] σ (some (.int r)) σ := by
  refine Ct_intro (own := RX8) zc_ok (by decide +kernel) rfl (Nat.le_of_ble_eq_true rfl) [(0, .ref (zA (Zc V) 0)), (1, .int v1), (2, .int v2)] rfl (fun K C R hKl hnL => ?_)
  have hN := nl_of hnL
  subst hKl
  refine Y_end h ?_
  unfold M_X8_vector
  refine x_aload_n C 0 0 dX8_vector_0 rfl ?_
  refine x_iload_n C 1 1 dX8_vector_1 rfl ?_
  refine Y_bnd1 (fun r2 h2 => ?_)
  refine x_callVi C 2 [.int v1] [] rfl tw_637 mv_X8_isCopy (Nat.le_of_ble_eq_true rfl) (Nat.le_of_ble_eq_true rfl) (Nat.le_of_ble_eq_true rfl) (Nat.le_of_ble_eq_true rfl) (kc_0 V _) rfl dX8_vector_2 (c_X8_isCopy V _ _ _ h2) ?_
  refine x_if_eq C 5 28 dX8_vector_5 (by decide) (fun _ => ?_) (fun _ => ?_)
  · refine x_iconst C 28 dX8_vector_28 ki_m1 ?_
    exact x_iret1 C R 29 dX8_vector_29
  · refine x_aload_n C 8 0 dX8_vector_8 rfl ?_
    refine x_iload_n C 9 2 dX8_vector_9 rfl ?_
    refine Y_bnd1 (fun r10 h10 => ?_)
    refine x_callVi C 10 [.int v2] [] rfl tw_637 mv_X8_isCopy (Nat.le_of_ble_eq_true rfl) (Nat.le_of_ble_eq_true rfl) (Nat.le_of_ble_eq_true rfl) (Nat.le_of_ble_eq_true rfl) (kc_0 V _) rfl dX8_vector_10 (c_X8_isCopy V _ _ _ h10) ?_
    refine x_if_eq C 13 28 dX8_vector_13 (by decide) (fun _ => ?_) (fun _ => ?_)
    · refine x_iconst C 28 dX8_vector_28 ki_m1 ?_
      exact x_iret1 C R 29 dX8_vector_29
    · refine x_aload_n C 16 0 dX8_vector_16 rfl ?_
      refine fgc_X8_42 C 17 dX8_vector_17 ?_
      refine x_iload_n C 20 1 dX8_vector_20 rfl ?_
      refine x_iload_n C 21 2 dX8_vector_21 rfl ?_
      refine Y_bnd1 (fun r22 h22 => ?_)
      refine x_callVi C 22 [.int v1, .int v2] [] rfl tw_949 mv_X1_vectorOf (Nat.le_of_ble_eq_true rfl) (Nat.le_of_ble_eq_true rfl) (Nat.le_of_ble_eq_true rfl) (Nat.le_of_ble_eq_true rfl) (kc_28 V _) rfl dX8_vector_22 (c_X1_vectorOf V _ _ _ _ h22) ?_
      refine x_goto C 25 29 dX8_vector_25 (by decide) ?_
      exact x_iret1 C R 29 dX8_vector_29
def M_X8_session_J33 (σ : Wd) (v1 : Int32) (t0 : Int32) : Option Int32 :=
  bnd1 (M_X1_sessionNumber σ t0 v1) fun r34 => some r34
def M_X8_session (σ : Wd) (v1 : Int32) (v2 : Int32) : Option Int32 :=
  bnd1 (M_X8_isSession v1) fun r1 => if r1 = 0 then (some (-1 : Int32)) else (if v2 < 0 then (some (-1 : Int32)) else (if v2 ≤ (1 : Int32) then (if v2 ≠ 0 then (M_X8_session_J33 σ v1 (48 : Int32)) else (M_X8_session_J33 σ v1 (44 : Int32))) else (some (-1 : Int32))))
set_option maxRecDepth 100000 in
set_option maxHeartbeats 4000000 in
theorem c_X8_session (V : Ct_V) (l : Launch) (σ : Wd) (v1 : Int32) (v2 : Int32) {r : Int32} (h : M_X8_session σ v1 v2 = some r) : Ct l (Zc V) yX8_session cX8_session 3 (some .int) 1 22 [.ref (zA (Zc V) 0), .int v1, .int v2] σ (some (.int r)) σ := by
  refine Ct_intro (own := RX8) zc_ok (by decide +kernel) rfl (Nat.le_of_ble_eq_true rfl) [(0, .ref (zA (Zc V) 0)), (1, .int v1), (2, .int v2)] rfl (fun K C R hKl hnL => ?_)
  have hN := nl_of hnL
  subst hKl
  refine Y_end h ?_
  unfold M_X8_session
  refine x_iload_n C 0 1 dX8_session_0 rfl ?_
  refine Y_bnd1 (fun r1 h1 => ?_)
  refine x_callSi C 1 [.int v1] [] rfl tw_634 ms_X8_isSession (Nat.le_of_ble_eq_true rfl) (Nat.le_of_ble_eq_true rfl) (Nat.le_of_ble_eq_true rfl) dX8_session_1 (c_X8_isSession V _ _ _ h1) ?_
  refine x_if_eq C 4 16 dX8_session_4 (by decide) (fun _ => ?_) (fun _ => ?_)
  · refine x_iconst C 16 dX8_session_16 ki_m1 ?_
    exact x_iret1 C R 17 dX8_session_17
  · refine x_iload_n C 7 2 dX8_session_7 rfl ?_
    refine x_if_lt C 8 16 dX8_session_8 (by decide) (fun _ => ?_) (fun _ => ?_)
    · refine x_iconst C 16 dX8_session_16 ki_m1 ?_
      exact x_iret1 C R 17 dX8_session_17
    · refine x_iload_n C 11 2 dX8_session_11 rfl ?_
      refine x_iconst C 12 dX8_session_12 ki_1 ?_
      refine x_icmp_le C 13 18 dX8_session_13 (by decide) (fun _ => ?_) (fun _ => ?_)
      · refine x_aload_n C 18 0 dX8_session_18 rfl ?_
        refine fgc_X8_42 C 19 dX8_session_19 ?_
        refine x_iload_n C 22 2 dX8_session_22 rfl ?_
        have hJ33 : ∀ (v1_33 : Int32) (t0_33 : Int32), Y K (Zc V) (M_X8_session_J33 σ v1_33 t0_33) (fun q => q = r) σ 33 [(1, .int v1_33)] [.int t0_33, .ref (zA (Zc V) 28)] := by
          intro v1_33 t0_33
          unfold M_X8_session_J33
          refine x_iload_n C 33 0 dX8_session_33 rfl ?_
          refine Y_bnd1 (fun r34 h34 => ?_)
          refine x_callVi C 34 [.int t0_33, .int v1_33] [] rfl tw_792 mv_X1_sessionNumber (Nat.le_of_ble_eq_true rfl) (Nat.le_of_ble_eq_true rfl) (Nat.le_of_ble_eq_true rfl) (Nat.le_of_ble_eq_true rfl) (kc_28 V _) rfl dX8_session_34 (c_X1_sessionNumber V _ _ _ _ h34) ?_
          exact x_iret1 C R 37 dX8_session_37
        refine x_if_ne C 23 31 dX8_session_23 (by decide) (fun _ => ?_) (fun _ => ?_)
        · refine x_bipush C 31 dX8_session_31 kb_48 ?_
          refine Y_sub [1] rfl ?_
          exact hJ33 _ _
        · refine x_bipush C 26 dX8_session_26 kb_44 ?_
          refine x_goto C 28 33 dX8_session_28 (by decide) ?_
          refine Y_sub [1] rfl ?_
          exact hJ33 _ _
      · refine x_iconst C 16 dX8_session_16 ki_m1 ?_
        exact x_iret1 C R 17 dX8_session_17
def M_X8_of_J32 (σ : Wd) (v1 : Int32) (v2 : Int32) (t0 : Int32) : Option Int32 :=
  bnd1 (M_X1_sessionVector σ t0 v1 v2) fun r34 => some r34
def M_X8_of (σ : Wd) (v1 : Int32) (v2 : Int32) (v3 : Int32) : Option Int32 :=
  bnd1 (M_X8_isSession v1) fun r1 => if r1 = 0 then (some (-1 : Int32)) else (bnd1 (M_X8_isCopy σ v2) fun r9 => if r9 ≠ 0 then (if v3 = 0 then (M_X8_of_J32 σ v1 v2 (56 : Int32)) else (M_X8_of_J32 σ v1 v2 (76 : Int32))) else (some (-1 : Int32)))
set_option maxRecDepth 100000 in
set_option maxHeartbeats 4000000 in
theorem c_X8_of (V : Ct_V) (l : Launch) (σ : Wd) (v1 : Int32) (v2 : Int32) (v3 : Int32) {r : Int32} (h : M_X8_of σ v1 v2 v3 = some r) : Ct l (Zc V) yX8_of cX8_of 4 (some .int) 1 23 [.ref (zA (Zc V) 0), .int v1, .int v2, .int v3] σ (some (.int r)) σ := by
  refine Ct_intro (own := RX8) zc_ok (by decide +kernel) rfl (Nat.le_of_ble_eq_true rfl) [(0, .ref (zA (Zc V) 0)), (1, .int v1), (2, .int v2), (3, .int v3)] rfl (fun K C R hKl hnL => ?_)
  have hN := nl_of hnL
  subst hKl
  refine Y_end h ?_
  unfold M_X8_of
  refine x_iload_n C 0 1 dX8_of_0 rfl ?_
  refine Y_bnd1 (fun r1 h1 => ?_)
  refine x_callSi C 1 [.int v1] [] rfl tw_634 ms_X8_isSession (Nat.le_of_ble_eq_true rfl) (Nat.le_of_ble_eq_true rfl) (Nat.le_of_ble_eq_true rfl) dX8_of_1 (c_X8_isSession V _ _ _ h1) ?_
  refine x_if_eq C 4 15 dX8_of_4 (by decide) (fun _ => ?_) (fun _ => ?_)
  · refine x_iconst C 15 dX8_of_15 ki_m1 ?_
    exact x_iret1 C R 16 dX8_of_16
  · refine x_aload_n C 7 0 dX8_of_7 rfl ?_
    refine x_iload_n C 8 2 dX8_of_8 rfl ?_
    refine Y_bnd1 (fun r9 h9 => ?_)
    refine x_callVi C 9 [.int v2] [] rfl tw_637 mv_X8_isCopy (Nat.le_of_ble_eq_true rfl) (Nat.le_of_ble_eq_true rfl) (Nat.le_of_ble_eq_true rfl) (Nat.le_of_ble_eq_true rfl) (kc_0 V _) rfl dX8_of_9 (c_X8_isCopy V _ _ _ h9) ?_
    refine x_if_ne C 12 17 dX8_of_12 (by decide) (fun _ => ?_) (fun _ => ?_)
    · refine x_aload_n C 17 0 dX8_of_17 rfl ?_
      refine fgc_X8_42 C 18 dX8_of_18 ?_
      refine x_iload_n C 21 3 dX8_of_21 rfl ?_
      have hJ32 : ∀ (v1_32 : Int32) (v2_32 : Int32) (t0_32 : Int32), Y K (Zc V) (M_X8_of_J32 σ v1_32 v2_32 t0_32) (fun q => q = r) σ 32 [(1, .int v1_32), (2, .int v2_32)] [.int t0_32, .ref (zA (Zc V) 28)] := by
        intro v1_32 v2_32 t0_32
        unfold M_X8_of_J32
        refine x_iload_n C 32 0 dX8_of_32 rfl ?_
        refine x_iload_n C 33 1 dX8_of_33 rfl ?_
        refine Y_bnd1 (fun r34 h34 => ?_)
        refine x_callVi C 34 [.int t0_32, .int v1_32, .int v2_32] [] rfl tw_958 mv_X1_sessionVector (Nat.le_of_ble_eq_true rfl) (Nat.le_of_ble_eq_true rfl) (Nat.le_of_ble_eq_true rfl) (Nat.le_of_ble_eq_true rfl) (kc_28 V _) rfl dX8_of_34 (c_X1_sessionVector V _ _ _ _ _ h34) ?_
        exact x_iret1 C R 37 dX8_of_37
      refine x_if_eq C 22 30 dX8_of_22 (by decide) (fun _ => ?_) (fun _ => ?_)
      · refine x_bipush C 30 dX8_of_30 kb_56 ?_
        refine Y_sub [1, 2] rfl ?_
        exact hJ32 _ _ _
      · refine x_bipush C 25 dX8_of_25 kb_76 ?_
        refine x_goto C 27 32 dX8_of_27 (by decide) ?_
        refine Y_sub [1, 2] rfl ?_
        exact hJ32 _ _ _
    · refine x_iconst C 15 dX8_of_15 ki_m1 ?_
      exact x_iret1 C R 16 dX8_of_16
def M_X8_shut (σ : Wd) (v1 : Int32) : Option Int32 :=
  if v1 < 0 then (some (-1 : Int32)) else (if v1 < (8 : Int32) then (bnd1 (M_X1_latelyClosed σ v1) fun r19 => some r19) else (some (-1 : Int32)))
set_option maxRecDepth 100000 in
set_option maxHeartbeats 4000000 in
theorem c_X8_shut (V : Ct_V) (l : Launch) (σ : Wd) (v1 : Int32) {r : Int32} (h : M_X8_shut σ v1 = some r) : Ct l (Zc V) yX8_shut cX8_shut 2 (some .int) 1 21 [.ref (zA (Zc V) 0), .int v1] σ (some (.int r)) σ := by
  refine Ct_intro (own := RX8) zc_ok (by decide +kernel) rfl (Nat.le_of_ble_eq_true rfl) [(0, .ref (zA (Zc V) 0)), (1, .int v1)] rfl (fun K C R hKl hnL => ?_)
  have hN := nl_of hnL
  subst hKl
  refine Y_end h ?_
  unfold M_X8_shut
  refine x_iload_n C 0 1 dX8_shut_0 rfl ?_
  refine x_if_lt C 1 10 dX8_shut_1 (by decide) (fun _ => ?_) (fun _ => ?_)
  · refine x_iconst C 10 dX8_shut_10 ki_m1 ?_
    refine x_goto C 11 22 dX8_shut_11 (by decide) ?_
    exact x_iret1 C R 22 dX8_shut_22
  · refine x_iload_n C 4 1 dX8_shut_4 rfl ?_
    refine x_bipush C 5 dX8_shut_5 kb_8 ?_
    refine x_icmp_lt C 7 14 dX8_shut_7 (by decide) (fun _ => ?_) (fun _ => ?_)
    · refine x_aload_n C 14 0 dX8_shut_14 rfl ?_
      refine fgc_X8_42 C 15 dX8_shut_15 ?_
      refine x_iload_n C 18 1 dX8_shut_18 rfl ?_
      refine Y_bnd1 (fun r19 h19 => ?_)
      refine x_callVi C 19 [.int v1] [] rfl tw_963 mv_X1_latelyClosed (Nat.le_of_ble_eq_true rfl) (Nat.le_of_ble_eq_true rfl) (Nat.le_of_ble_eq_true rfl) (Nat.le_of_ble_eq_true rfl) (kc_28 V _) rfl dX8_shut_19 (c_X1_latelyClosed V _ _ _ h19) ?_
      exact x_iret1 C R 22 dX8_shut_22
    · refine x_iconst C 10 dX8_shut_10 ki_m1 ?_
      refine x_goto C 11 22 dX8_shut_11 (by decide) ?_
      exact x_iret1 C R 22 dX8_shut_22
def M_X8_lacks (σ : Wd) (v1 : Int32) (v2 : Int32) : Option Int32 :=
  bnd1 (M_X8_areCopies σ v1 v2) fun r3 => if r3 = 0 then (some (-1 : Int32)) else (bnd1 (M_X1_setOf σ v1) fun r14 => bnd1 (M_X1_setOf σ v2) fun r22 => bnd1 (M_J13_bitCount_95d88 (r14 &&& (r22 ^^^ (-1 : Int64)))) fun r30 => some r30)
set_option maxRecDepth 100000 in
set_option maxHeartbeats 4000000 in
theorem c_X8_lacks (V : Ct_V) (l : Launch) (σ : Wd) (v1 : Int32) (v2 : Int32) {r : Int32} (h : M_X8_lacks σ v1 v2 = some r) : Ct l (Zc V) yX8_lacks cX8_lacks 3 (some .int) 2 43 [.ref (zA (Zc V) 0), .int v1, .int v2] σ (some (.int r)) σ := by
  refine Ct_intro (own := RX8) zc_ok (by decide +kernel) rfl (Nat.le_of_ble_eq_true rfl) [(0, .ref (zA (Zc V) 0)), (1, .int v1), (2, .int v2)] rfl (fun K C R hKl hnL => ?_)
  have hN := nl_of hnL
  subst hKl
  refine Y_end h ?_
  unfold M_X8_lacks
  refine x_aload_n C 0 0 dX8_lacks_0 rfl ?_
  refine x_iload_n C 1 1 dX8_lacks_1 rfl ?_
  refine x_iload_n C 2 2 dX8_lacks_2 rfl ?_
  refine Y_bnd1 (fun r3 h3 => ?_)
  refine x_callVi C 3 [.int v1, .int v2] [] rfl tw_812 mv_X8_areCopies (Nat.le_of_ble_eq_true rfl) (Nat.le_of_ble_eq_true rfl) (Nat.le_of_ble_eq_true rfl) (Nat.le_of_ble_eq_true rfl) (kc_0 V _) rfl dX8_lacks_3 (c_X8_areCopies V _ _ _ _ h3) ?_
  refine x_if_eq C 6 36 dX8_lacks_6 (by decide) (fun _ => ?_) (fun _ => ?_)
  · refine x_iconst C 36 dX8_lacks_36 ki_m1 ?_
    exact x_iret1 C R 37 dX8_lacks_37
  · refine x_aload_n C 9 0 dX8_lacks_9 rfl ?_
    refine fgc_X8_42 C 10 dX8_lacks_10 ?_
    refine x_iload_n C 13 1 dX8_lacks_13 rfl ?_
    refine Y_bnd1 (fun r14 h14 => ?_)
    refine x_callVl C 14 [.int v1] [] rfl tw_922 mv_X1_setOf (Nat.le_of_ble_eq_true rfl) (Nat.le_of_ble_eq_true rfl) (Nat.le_of_ble_eq_true rfl) (Nat.le_of_ble_eq_true rfl) (kc_28 V _) rfl dX8_lacks_14 (c_X1_setOf V _ _ _ h14) ?_
    refine x_aload_n C 17 0 dX8_lacks_17 rfl ?_
    refine fgc_X8_42 C 18 dX8_lacks_18 ?_
    refine x_iload_n C 21 2 dX8_lacks_21 rfl ?_
    refine Y_bnd1 (fun r22 h22 => ?_)
    refine x_callVl C 22 [.int v2] [.long r14] rfl tw_922 mv_X1_setOf (Nat.le_of_ble_eq_true rfl) (Nat.le_of_ble_eq_true rfl) (Nat.le_of_ble_eq_true rfl) (Nat.le_of_ble_eq_true rfl) (kc_28 V _) rfl dX8_lacks_22 (c_X1_setOf V _ _ _ h22) ?_
    refine x_ldc2 C 25 (hw := tw_971) dX8_lacks_25 ?_
    refine x_lxor C 28 dX8_lacks_28 ?_
    refine x_land C 29 dX8_lacks_29 ?_
    refine Y_bnd1 (fun r30 h30 => ?_)
    refine x_callSi C 30 [.long (r14 &&& (r22 ^^^ (-1 : Int64)))] [] rfl tw_923 ms_J13_bitCount_95d88 (Nat.le_of_ble_eq_true rfl) (Nat.le_of_ble_eq_true rfl) (Nat.le_of_ble_eq_true rfl) dX8_lacks_30 (c_J13_bitCount_95d88 V _ _ _ h30) ?_
    refine x_goto C 33 37 dX8_lacks_33 (by decide) ?_
    exact x_iret1 C R 37 dX8_lacks_37
def M_X8_would (σ : Wd) (v1 : Int32) (v2 : Int32) : Option (Int32 × Wd) :=
  bnd1 (M_X8_areTwoCopies σ v1 v2) fun r3 => if r3 = 0 then (some ((-1 : Int32), σ)) else (bnd2 (M_X1_wouldRoll σ v1 v2) fun r15 s_15 => some (r15, s_15))
set_option maxRecDepth 100000 in
set_option maxHeartbeats 4000000 in
theorem c_X8_would (V : Ct_V) (l : Launch) (σ : Wd) (v1 : Int32) (v2 : Int32) {r : Int32} {σ2 : Wd} (h : M_X8_would σ v1 v2 = some (r, σ2)) : Ct l (Zc V) yX8_would cX8_would 3 (some .int) 3 75 [.ref (zA (Zc V) 0), .int v1, .int v2] σ (some (.int r)) σ2 := by
  refine Ct_intro (own := RX8) zc_ok (by decide +kernel) rfl (Nat.le_of_ble_eq_true rfl) [(0, .ref (zA (Zc V) 0)), (1, .int v1), (2, .int v2)] rfl (fun K C R hKl hnL => ?_)
  have hN := nl_of hnL
  subst hKl
  refine Y_end h ?_
  unfold M_X8_would
  refine x_aload_n C 0 0 dX8_would_0 rfl ?_
  refine x_iload_n C 1 1 dX8_would_1 rfl ?_
  refine x_iload_n C 2 2 dX8_would_2 rfl ?_
  refine Y_bnd1 (fun r3 h3 => ?_)
  refine x_callVi C 3 [.int v1, .int v2] [] rfl tw_808 mv_X8_areTwoCopies (Nat.le_of_ble_eq_true rfl) (Nat.le_of_ble_eq_true rfl) (Nat.le_of_ble_eq_true rfl) (Nat.le_of_ble_eq_true rfl) (kc_0 V _) rfl dX8_would_3 (c_X8_areTwoCopies V _ _ _ _ h3) ?_
  refine x_if_eq C 6 21 dX8_would_6 (by decide) (fun _ => ?_) (fun _ => ?_)
  · refine x_iconst C 21 dX8_would_21 ki_m1 ?_
    exact x_iret2 C R 22 dX8_would_22
  · refine x_aload_n C 9 0 dX8_would_9 rfl ?_
    refine fgc_X8_42 C 10 dX8_would_10 ?_
    refine x_iload_n C 13 1 dX8_would_13 rfl ?_
    refine x_iload_n C 14 2 dX8_would_14 rfl ?_
    refine Y_bnd2 (fun r15 s_15 h15 => ?_)
    refine x_callVi C 15 [.int v1, .int v2] [] rfl tw_976 mv_X1_wouldRoll (Nat.le_of_ble_eq_true rfl) (Nat.le_of_ble_eq_true rfl) (Nat.le_of_ble_eq_true rfl) (Nat.le_of_ble_eq_true rfl) (kc_28 V _) rfl dX8_would_15 (c_X1_wouldRoll V _ _ _ _ h15) ?_
    refine x_goto C 18 22 dX8_would_18 (by decide) ?_
    exact x_iret2 C R 22 dX8_would_22
def M_X8_differ_L48 (σ : Wd) (v3 : Int32) (v4 : Int32) : Option ((Int32 × Int32) ⊕ (Int32)) :=
  chk (famT (gR σ 0 4)) (if (gI σ (gR σ 0 4) 3) ≤ v4 then (some (.inr v3)) else (bnd1 (M_X4_lastOf σ 108 v4) fun r66 => bnd1 (M_X4_lastOf σ 116 v4) fun r75 => if r66 = r75 then (lt (v4 + (1 : Int32)) fun v4_88 => some (.inl (v3, v4_88))) else (lt (v3 ||| ((1 : Int32) <<< (v4 &&& 31))) fun v3_87 => lt (v4 + (1 : Int32)) fun v4_88 => some (.inl (v3_87, v4_88)))))
def M_X8_differ (σ : Wd) (v1 : Int32) (v2 : Int32) : Option (Int32 × Wd) :=
  bnd1 (M_X8_areCopies σ v1 v2) fun r3 => if r3 ≠ 0 then (chk (famT (gR σ 0 4)) (bnd1 (M_X4_play σ 108 (gR σ 0 4) v1) fun s_24 => chk (famT (gR s_24 0 4)) (bnd1 (M_X4_play s_24 116 (gR s_24 0 4) v2) fun s_40 => bnd1 (iter (fun s : Int32 × Int32 => M_X8_differ_L48 s_40 s.1 s.2) FU ((0 : Int32), (0 : Int32))) (un1 fun x3_48 => (some (x3_48, s_40)))))) else (some ((-1 : Int32), σ))
set_option maxRecDepth 100000 in
set_option maxHeartbeats 4000000 in
theorem c_X8_differ (V : Ct_V) (l : Launch) (σ : Wd) (v1 : Int32) (v2 : Int32) {r : Int32} {σ2 : Wd} (h : M_X8_differ σ v1 v2 = some (r, σ2)) : Ct l (Zc V) yX8_differ cX8_differ 5 (some .int) 4 108 [.ref (zA (Zc V) 0), .int v1, .int v2] σ (some (.int r)) σ2 := by
  refine Ct_intro (own := RX8) zc_ok (by decide +kernel) rfl (Nat.le_of_ble_eq_true rfl) [(0, .ref (zA (Zc V) 0)), (1, .int v1), (2, .int v2)] rfl (fun K C R hKl hnL => ?_)
  have hN := nl_of hnL
  subst hKl
  refine Y_end h ?_
  unfold M_X8_differ
  refine x_aload_n C 0 0 dX8_differ_0 rfl ?_
  refine x_iload_n C 1 1 dX8_differ_1 rfl ?_
  refine x_iload_n C 2 2 dX8_differ_2 rfl ?_
  refine Y_bnd1 (fun r3 h3 => ?_)
  refine x_callVi C 3 [.int v1, .int v2] [] rfl tw_812 mv_X8_areCopies (Nat.le_of_ble_eq_true rfl) (Nat.le_of_ble_eq_true rfl) (Nat.le_of_ble_eq_true rfl) (Nat.le_of_ble_eq_true rfl) (kc_0 V _) rfl dX8_differ_3 (c_X8_areCopies V _ _ _ _ h3) ?_
  refine x_if_ne C 6 11 dX8_differ_6 (by decide) (fun _ => ?_) (fun _ => ?_)
  · refine x_aload_n C 11 0 dX8_differ_11 rfl ?_
    refine fgc_X8_64 C 12 dX8_differ_12 ?_
    refine x_aload_n C 15 0 dX8_differ_15 rfl ?_
    refine fgc_X8_23 C 16 dX8_differ_16 ?_
    refine Y_chk (fun hf16 => ?_)
    refine x_aload_n C 19 0 dX8_differ_19 rfl ?_
    refine fgc_X8_42 C 20 dX8_differ_20 ?_
    refine x_iload_n C 23 1 dX8_differ_23 rfl ?_
    refine Y_bnd1 (fun s_24 h24 => ?_)
    refine x_callVv C 24 [.ref (zA (Zc V) (gR σ 0 4)), .ref (zA (Zc V) 28), .int v1] [] rfl tw_744 mv_X4_play (Nat.le_of_ble_eq_true rfl) (Nat.le_of_ble_eq_true rfl) (Nat.le_of_ble_eq_true rfl) (ltP_0 (by decide)) (kP_0 V (by decide) _) rfl dX8_differ_24 (c_X4_play V _ _ _ (by decide) _ hf16 _ h24) ?_
    refine x_aload_n C 27 0 dX8_differ_27 rfl ?_
    refine fgc_X8_68 C 28 dX8_differ_28 ?_
    refine x_aload_n C 31 0 dX8_differ_31 rfl ?_
    refine fgc_X8_23 C 32 dX8_differ_32 ?_
    refine Y_chk (fun hf32 => ?_)
    refine x_aload_n C 35 0 dX8_differ_35 rfl ?_
    refine fgc_X8_42 C 36 dX8_differ_36 ?_
    refine x_iload_n C 39 2 dX8_differ_39 rfl ?_
    refine Y_bnd1 (fun s_40 h40 => ?_)
    refine x_callVv C 40 [.ref (zA (Zc V) (gR s_24 0 4)), .ref (zA (Zc V) 28), .int v2] [] rfl tw_744 mv_X4_play (Nat.le_of_ble_eq_true rfl) (Nat.le_of_ble_eq_true rfl) (Nat.le_of_ble_eq_true rfl) (ltP_0 (by decide)) (kP_0 V (by decide) _) rfl dX8_differ_40 (c_X4_play V _ _ _ (by decide) _ hf32 _ h40) ?_
    refine x_iconst C 43 dX8_differ_43 ki_0 ?_
    refine x_istore_n C 44 (L' := [(3, .int (0 : Int32)), (0, .ref (zA (Zc V) 0)), (1, .int v1), (2, .int v2)]) dX8_differ_44 rfl (hN _ (Nat.le_of_ble_eq_true rfl)) rfl ?_
    refine x_iconst C 45 dX8_differ_45 ki_0 ?_
    refine x_istore C 46 (L' := [(4, .int (0 : Int32)), (3, .int (0 : Int32)), (0, .ref (zA (Zc V) 0)), (1, .int v1), (2, .int v2)]) dX8_differ_46 (hN _ (Nat.le_of_ble_eq_true rfl)) rfl ?_
    refine Y_sub [2, 1, 0] rfl ?_
    refine x_loop 48 (fun s : Int32 × Int32 => s_40) (fun s : Int32 × Int32 => [(0, .ref (zA (Zc V) 0)), (3, .int s.1), (4, .int s.2)]) (fun E48 hb48 hx48 s => ?_) FU ((0 : Int32), (0 : Int32))
    obtain ⟨v3_48, v4_48⟩ := s
    show Y K (Zc V) (M_X8_differ_L48 s_40 v3_48 v4_48) E48 s_40 48 [(0, .ref (zA (Zc V) 0)), (3, .int v3_48), (4, .int v4_48)] []
    unfold M_X8_differ_L48
    refine x_iload C 48 2 dX8_differ_48 rfl ?_
    refine x_aload_n C 50 0 dX8_differ_50 rfl ?_
    refine fgc_X8_23 C 51 dX8_differ_51 ?_
    refine Y_chk (fun hf51 => ?_)
    refine fgf_X8_285 (hf51) C 54 dX8_differ_54 ?_
    refine x_icmp_ge C 57 94 dX8_differ_57 (by decide) (fun _ => ?_) (fun _ => ?_)
    · refine x_ex1 hx48 v3_48 ?_
      refine x_iload_n C 94 1 dX8_differ_94 rfl ?_
      exact x_iret2 C R 95 dX8_differ_95
    · refine x_aload_n C 60 0 dX8_differ_60 rfl ?_
      refine fgc_X8_64 C 61 dX8_differ_61 ?_
      refine x_iload C 64 2 dX8_differ_64 rfl ?_
      refine Y_bnd1 (fun r66 h66 => ?_)
      refine x_callVi C 66 [.int v4_48] [] rfl tw_772 mv_X4_lastOf (Nat.le_of_ble_eq_true rfl) (Nat.le_of_ble_eq_true rfl) (Nat.le_of_ble_eq_true rfl) (ltP_0 (by decide)) (kP_0 V (by decide) _) rfl dX8_differ_66 (c_X4_lastOf V _ _ _ (by decide) _ h66) ?_
      refine x_aload_n C 69 0 dX8_differ_69 rfl ?_
      refine fgc_X8_68 C 70 dX8_differ_70 ?_
      refine x_iload C 73 2 dX8_differ_73 rfl ?_
      refine Y_bnd1 (fun r75 h75 => ?_)
      refine x_callVi C 75 [.int v4_48] [.int r66] rfl tw_772 mv_X4_lastOf (Nat.le_of_ble_eq_true rfl) (Nat.le_of_ble_eq_true rfl) (Nat.le_of_ble_eq_true rfl) (ltP_0 (by decide)) (kP_0 V (by decide) _) rfl dX8_differ_75 (c_X4_lastOf V _ _ _ (by decide) _ h75) ?_
      refine x_icmp_eq C 78 88 dX8_differ_78 (by decide) (fun _ => ?_) (fun _ => ?_)
      · refine x_iinct C 88 2 (1 : Int32) (fun v4_88 => [(4, .int v4_88), (0, .ref (zA (Zc V) 0)), (3, .int v3_48)]) dX8_differ_88 rfl ki_1 (hN _ (Nat.le_of_ble_eq_true rfl)) (fun _ => rfl) (fun v4_88 => ?_)
        refine x_goto C 91 48 dX8_differ_91 (by decide) ?_
        refine Y_sub [1, 2, 0] rfl ?_
        exact x_back (v3_48, v4_88) (hb48 (v3_48, v4_88))
      · refine x_iload_n C 81 1 dX8_differ_81 rfl ?_
        refine x_iconst C 82 dX8_differ_82 ki_1 ?_
        refine x_iload C 83 2 dX8_differ_83 rfl ?_
        refine x_ishl C 85 dX8_differ_85 ?_
        refine x_ior C 86 dX8_differ_86 ?_
        refine x_istore_nt C 87 (fun v3_87 => [(3, .int v3_87), (0, .ref (zA (Zc V) 0)), (4, .int v4_48)]) dX8_differ_87 rfl (hN _ (Nat.le_of_ble_eq_true rfl)) (fun _ => rfl) (fun v3_87 => ?_)
        refine x_iinct C 88 2 (1 : Int32) (fun v4_88 => [(4, .int v4_88), (3, .int v3_87), (0, .ref (zA (Zc V) 0))]) dX8_differ_88 rfl ki_1 (hN _ (Nat.le_of_ble_eq_true rfl)) (fun _ => rfl) (fun v4_88 => ?_)
        refine x_goto C 91 48 dX8_differ_91 (by decide) ?_
        refine Y_sub [2, 1, 0] rfl ?_
        exact x_back (v3_87, v4_88) (hb48 (v3_87, v4_88))
  · refine x_iconst C 9 dX8_differ_9 ki_m1 ?_
    exact x_iret2 C R 10 dX8_differ_10
def M_X8_alike (σ : Wd) (v1 : Int32) (v2 : Int32) : Option Int32 :=
  bnd1 (M_X8_areCopies σ v1 v2) fun r3 => if r3 ≠ 0 then (bnd1 (M_X1_areAlike σ v1 v2) fun r17 => if r17 = 0 then (some (0 : Int32)) else (some (1 : Int32))) else (some (-1 : Int32))
set_option maxRecDepth 100000 in
set_option maxHeartbeats 4000000 in
theorem c_X8_alike (V : Ct_V) (l : Launch) (σ : Wd) (v1 : Int32) (v2 : Int32) {r : Int32} (h : M_X8_alike σ v1 v2 = some r) : Ct l (Zc V) yX8_alike cX8_alike 3 (some .int) 2 43 [.ref (zA (Zc V) 0), .int v1, .int v2] σ (some (.int r)) σ := by
  refine Ct_intro (own := RX8) zc_ok (by decide +kernel) rfl (Nat.le_of_ble_eq_true rfl) [(0, .ref (zA (Zc V) 0)), (1, .int v1), (2, .int v2)] rfl (fun K C R hKl hnL => ?_)
  have hN := nl_of hnL
  subst hKl
  refine Y_end h ?_
  unfold M_X8_alike
  refine x_aload_n C 0 0 dX8_alike_0 rfl ?_
  refine x_iload_n C 1 1 dX8_alike_1 rfl ?_
  refine x_iload_n C 2 2 dX8_alike_2 rfl ?_
  refine Y_bnd1 (fun r3 h3 => ?_)
  refine x_callVi C 3 [.int v1, .int v2] [] rfl tw_812 mv_X8_areCopies (Nat.le_of_ble_eq_true rfl) (Nat.le_of_ble_eq_true rfl) (Nat.le_of_ble_eq_true rfl) (Nat.le_of_ble_eq_true rfl) (kc_0 V _) rfl dX8_alike_3 (c_X8_areCopies V _ _ _ _ h3) ?_
  refine x_if_ne C 6 11 dX8_alike_6 (by decide) (fun _ => ?_) (fun _ => ?_)
  · refine x_aload_n C 11 0 dX8_alike_11 rfl ?_
    refine fgc_X8_42 C 12 dX8_alike_12 ?_
    refine x_iload_n C 15 1 dX8_alike_15 rfl ?_
    refine x_iload_n C 16 2 dX8_alike_16 rfl ?_
    refine Y_bnd1 (fun r17 h17 => ?_)
    refine x_callVi C 17 [.int v1, .int v2] [] rfl tw_988 mv_X1_areAlike (Nat.le_of_ble_eq_true rfl) (Nat.le_of_ble_eq_true rfl) (Nat.le_of_ble_eq_true rfl) (Nat.le_of_ble_eq_true rfl) (kc_28 V _) rfl dX8_alike_17 (c_X1_areAlike V _ _ _ _ h17) ?_
    refine x_if_eq C 20 27 dX8_alike_20 (by decide) (fun _ => ?_) (fun _ => ?_)
    · refine x_iconst C 27 dX8_alike_27 ki_0 ?_
      exact x_iret1 C R 28 dX8_alike_28
    · refine x_iconst C 23 dX8_alike_23 ki_1 ?_
      refine x_goto C 24 28 dX8_alike_24 (by decide) ?_
      exact x_iret1 C R 28 dX8_alike_28
  · refine x_iconst C 9 dX8_alike_9 ki_m1 ?_
    exact x_iret1 C R 10 dX8_alike_10
def M_X8_hangs (σ : Wd) (v1 : Int32) (v2 : Int32) (v3 : Int32) : Option (Int32 × Wd) :=
  bnd1 (M_X8_isCopy σ v1) fun r2 => if r2 = 0 then (some ((-1 : Int32), σ)) else (bnd1 (M_X8_isWrite σ v2) fun r10 => if r10 = 0 then (some ((-1 : Int32), σ)) else (if v3 < 0 then (some ((-1 : Int32), σ)) else (if v3 ≤ (1 : Int32) then (bnd1 (M_X1_hasIt σ v1 v2) fun r33 => if r33 ≠ 0 then (chk (famT (gR σ 0 4)) (bnd1 (M_X4_play σ 108 (gR σ 0 4) v1) fun s_55 => chk (famT (gR s_55 0 4)) (bnd1 (M_X4_placeOf s_55 108 v2) fun r75 => bnd1 (M_X4_weigh s_55 108 (gR s_55 0 4) r75) fun s_78 => if v3 ≠ 0 then (some ((gI s_78 108 8), s_78)) else (some ((gI s_78 108 7), s_78))))) else (some ((-3 : Int32), σ))) else (some ((-1 : Int32), σ)))))
set_option maxRecDepth 100000 in
set_option maxHeartbeats 4000000 in
theorem c_X8_hangs (V : Ct_V) (l : Launch) (σ : Wd) (v1 : Int32) (v2 : Int32) (v3 : Int32) {r : Int32} {σ2 : Wd} (h : M_X8_hangs σ v1 v2 v3 = some (r, σ2)) : Ct l (Zc V) yX8_hangs cX8_hangs 4 (some .int) 4 108 [.ref (zA (Zc V) 0), .int v1, .int v2, .int v3] σ (some (.int r)) σ2 := by
  refine Ct_intro (own := RX8) zc_ok (by decide +kernel) rfl (Nat.le_of_ble_eq_true rfl) [(0, .ref (zA (Zc V) 0)), (1, .int v1), (2, .int v2), (3, .int v3)] rfl (fun K C R hKl hnL => ?_)
  have hN := nl_of hnL
  subst hKl
  refine Y_end h ?_
  unfold M_X8_hangs
  refine x_aload_n C 0 0 dX8_hangs_0 rfl ?_
  refine x_iload_n C 1 1 dX8_hangs_1 rfl ?_
  refine Y_bnd1 (fun r2 h2 => ?_)
  refine x_callVi C 2 [.int v1] [] rfl tw_637 mv_X8_isCopy (Nat.le_of_ble_eq_true rfl) (Nat.le_of_ble_eq_true rfl) (Nat.le_of_ble_eq_true rfl) (Nat.le_of_ble_eq_true rfl) (kc_0 V _) rfl dX8_hangs_2 (c_X8_isCopy V _ _ _ h2) ?_
  refine x_if_eq C 5 25 dX8_hangs_5 (by decide) (fun _ => ?_) (fun _ => ?_)
  · refine x_iconst C 25 dX8_hangs_25 ki_m1 ?_
    exact x_iret2 C R 26 dX8_hangs_26
  · refine x_aload_n C 8 0 dX8_hangs_8 rfl ?_
    refine x_iload_n C 9 2 dX8_hangs_9 rfl ?_
    refine Y_bnd1 (fun r10 h10 => ?_)
    refine x_callVi C 10 [.int v2] [] rfl tw_883 mv_X8_isWrite (Nat.le_of_ble_eq_true rfl) (Nat.le_of_ble_eq_true rfl) (Nat.le_of_ble_eq_true rfl) (Nat.le_of_ble_eq_true rfl) (kc_0 V _) rfl dX8_hangs_10 (c_X8_isWrite V _ _ _ h10) ?_
    refine x_if_eq C 13 25 dX8_hangs_13 (by decide) (fun _ => ?_) (fun _ => ?_)
    · refine x_iconst C 25 dX8_hangs_25 ki_m1 ?_
      exact x_iret2 C R 26 dX8_hangs_26
    · refine x_iload_n C 16 3 dX8_hangs_16 rfl ?_
      refine x_if_lt C 17 25 dX8_hangs_17 (by decide) (fun _ => ?_) (fun _ => ?_)
      · refine x_iconst C 25 dX8_hangs_25 ki_m1 ?_
        exact x_iret2 C R 26 dX8_hangs_26
      · refine x_iload_n C 20 3 dX8_hangs_20 rfl ?_
        refine x_iconst C 21 dX8_hangs_21 ki_1 ?_
        refine x_icmp_le C 22 27 dX8_hangs_22 (by decide) (fun _ => ?_) (fun _ => ?_)
        · refine x_aload_n C 27 0 dX8_hangs_27 rfl ?_
          refine fgc_X8_42 C 28 dX8_hangs_28 ?_
          refine x_iload_n C 31 1 dX8_hangs_31 rfl ?_
          refine x_iload_n C 32 2 dX8_hangs_32 rfl ?_
          refine Y_bnd1 (fun r33 h33 => ?_)
          refine x_callVi C 33 [.int v1, .int v2] [] rfl tw_887 mv_X1_hasIt (Nat.le_of_ble_eq_true rfl) (Nat.le_of_ble_eq_true rfl) (Nat.le_of_ble_eq_true rfl) (Nat.le_of_ble_eq_true rfl) (kc_28 V _) rfl dX8_hangs_33 (c_X1_hasIt V _ _ _ _ h33) ?_
          refine x_if_ne C 36 42 dX8_hangs_36 (by decide) (fun _ => ?_) (fun _ => ?_)
          · refine x_aload_n C 42 0 dX8_hangs_42 rfl ?_
            refine fgc_X8_64 C 43 dX8_hangs_43 ?_
            refine x_aload_n C 46 0 dX8_hangs_46 rfl ?_
            refine fgc_X8_23 C 47 dX8_hangs_47 ?_
            refine Y_chk (fun hf47 => ?_)
            refine x_aload_n C 50 0 dX8_hangs_50 rfl ?_
            refine fgc_X8_42 C 51 dX8_hangs_51 ?_
            refine x_iload_n C 54 1 dX8_hangs_54 rfl ?_
            refine Y_bnd1 (fun s_55 h55 => ?_)
            refine x_callVv C 55 [.ref (zA (Zc V) (gR σ 0 4)), .ref (zA (Zc V) 28), .int v1] [] rfl tw_744 mv_X4_play (Nat.le_of_ble_eq_true rfl) (Nat.le_of_ble_eq_true rfl) (Nat.le_of_ble_eq_true rfl) (ltP_0 (by decide)) (kP_0 V (by decide) _) rfl dX8_hangs_55 (c_X4_play V _ _ _ (by decide) _ hf47 _ h55) ?_
            refine x_aload_n C 58 0 dX8_hangs_58 rfl ?_
            refine fgc_X8_64 C 59 dX8_hangs_59 ?_
            refine x_aload_n C 62 0 dX8_hangs_62 rfl ?_
            refine fgc_X8_23 C 63 dX8_hangs_63 ?_
            refine Y_chk (fun hf63 => ?_)
            refine x_aload_n C 66 0 dX8_hangs_66 rfl ?_
            refine fgc_X8_42 C 67 dX8_hangs_67 ?_
            refine x_aload_n C 70 0 dX8_hangs_70 rfl ?_
            refine fgc_X8_64 C 71 dX8_hangs_71 ?_
            refine x_iload_n C 74 2 dX8_hangs_74 rfl ?_
            refine Y_bnd1 (fun r75 h75 => ?_)
            refine x_callVi C 75 [.int v2] [.ref (zA (Zc V) 28), .ref (zA (Zc V) (gR s_55 0 4)), .ref (zA (Zc V) 108)] rfl tw_888 mv_X4_placeOf (Nat.le_of_ble_eq_true rfl) (Nat.le_of_ble_eq_true rfl) (Nat.le_of_ble_eq_true rfl) (ltP_0 (by decide)) (kP_0 V (by decide) _) rfl dX8_hangs_75 (c_X4_placeOf V _ _ _ (by decide) _ h75) ?_
            refine Y_bnd1 (fun s_78 h78 => ?_)
            refine x_callVv C 78 [.ref (zA (Zc V) (gR s_55 0 4)), .ref (zA (Zc V) 28), .int r75] [] rfl tw_996 mv_X4_weigh (Nat.le_of_ble_eq_true rfl) (Nat.le_of_ble_eq_true rfl) (Nat.le_of_ble_eq_true rfl) (ltP_0 (by decide)) (kP_0 V (by decide) _) rfl dX8_hangs_78 (c_X4_weigh V _ _ _ (by decide) _ hf63 _ h78) ?_
            refine x_iload_n C 81 3 dX8_hangs_81 rfl ?_
            refine x_if_ne C 82 95 dX8_hangs_82 (by decide) (fun _ => ?_) (fun _ => ?_)
            · refine x_aload_n C 95 0 dX8_hangs_95 rfl ?_
              refine fgc_X8_64 C 96 dX8_hangs_96 ?_
              refine fgf_X8_297 (by decide) C 99 dX8_hangs_99 ?_
              exact x_iret2 C R 102 dX8_hangs_102
            · refine x_aload_n C 85 0 dX8_hangs_85 rfl ?_
              refine fgc_X8_64 C 86 dX8_hangs_86 ?_
              refine fgf_X8_294 (by decide) C 89 dX8_hangs_89 ?_
              refine x_goto C 92 102 dX8_hangs_92 (by decide) ?_
              exact x_iret2 C R 102 dX8_hangs_102
          · refine x_bipush C 39 dX8_hangs_39 kb_m3 ?_
            exact x_iret2 C R 41 dX8_hangs_41
        · refine x_iconst C 25 dX8_hangs_25 ki_m1 ?_
          exact x_iret2 C R 26 dX8_hangs_26
def M_X8_behind (σ : Wd) (v1 : Int32) (v2 : Int32) (v3 : Int32) : Option (Int32 × Wd) :=
  bnd1 (M_X8_isCopy σ v1) fun r2 => if r2 = 0 then (some ((0 : Int32), σ)) else (bnd1 (M_X8_isCell σ v2) fun r10 => if r10 = 0 then (some ((0 : Int32), σ)) else (if 0 ≤ v3 then (chk (famT (gR σ 0 4)) (bnd1 (M_X4_play σ 108 (gR σ 0 4) v1) fun s_35 => bnd1 (M_X4_cellBehind s_35 108 v2 v3) fun r44 => some (r44, s_35))) else (some ((0 : Int32), σ))))
set_option maxRecDepth 100000 in
set_option maxHeartbeats 4000000 in
theorem c_X8_behind (V : Ct_V) (l : Launch) (σ : Wd) (v1 : Int32) (v2 : Int32) (v3 : Int32) {r : Int32} {σ2 : Wd} (h : M_X8_behind σ v1 v2 v3 = some (r, σ2)) : Ct l (Zc V) yX8_behind cX8_behind 4 (some .int) 4 108 [.ref (zA (Zc V) 0), .int v1, .int v2, .int v3] σ (some (.int r)) σ2 := by
  refine Ct_intro (own := RX8) zc_ok (by decide +kernel) rfl (Nat.le_of_ble_eq_true rfl) [(0, .ref (zA (Zc V) 0)), (1, .int v1), (2, .int v2), (3, .int v3)] rfl (fun K C R hKl hnL => ?_)
  have hN := nl_of hnL
  subst hKl
  refine Y_end h ?_
  unfold M_X8_behind
  refine x_aload_n C 0 0 dX8_behind_0 rfl ?_
  refine x_iload_n C 1 1 dX8_behind_1 rfl ?_
  refine Y_bnd1 (fun r2 h2 => ?_)
  refine x_callVi C 2 [.int v1] [] rfl tw_637 mv_X8_isCopy (Nat.le_of_ble_eq_true rfl) (Nat.le_of_ble_eq_true rfl) (Nat.le_of_ble_eq_true rfl) (Nat.le_of_ble_eq_true rfl) (kc_0 V _) rfl dX8_behind_2 (c_X8_isCopy V _ _ _ h2) ?_
  refine x_if_eq C 5 20 dX8_behind_5 (by decide) (fun _ => ?_) (fun _ => ?_)
  · refine x_iconst C 20 dX8_behind_20 ki_0 ?_
    exact x_iret2 C R 21 dX8_behind_21
  · refine x_aload_n C 8 0 dX8_behind_8 rfl ?_
    refine x_iload_n C 9 2 dX8_behind_9 rfl ?_
    refine Y_bnd1 (fun r10 h10 => ?_)
    refine x_callVi C 10 [.int v2] [] rfl tw_736 mv_X8_isCell (Nat.le_of_ble_eq_true rfl) (Nat.le_of_ble_eq_true rfl) (Nat.le_of_ble_eq_true rfl) (Nat.le_of_ble_eq_true rfl) (kc_0 V _) rfl dX8_behind_10 (c_X8_isCell V _ _ _ h10) ?_
    refine x_if_eq C 13 20 dX8_behind_13 (by decide) (fun _ => ?_) (fun _ => ?_)
    · refine x_iconst C 20 dX8_behind_20 ki_0 ?_
      exact x_iret2 C R 21 dX8_behind_21
    · refine x_iload_n C 16 3 dX8_behind_16 rfl ?_
      refine x_if_ge C 17 22 dX8_behind_17 (by decide) (fun _ => ?_) (fun _ => ?_)
      · refine x_aload_n C 22 0 dX8_behind_22 rfl ?_
        refine fgc_X8_64 C 23 dX8_behind_23 ?_
        refine x_aload_n C 26 0 dX8_behind_26 rfl ?_
        refine fgc_X8_23 C 27 dX8_behind_27 ?_
        refine Y_chk (fun hf27 => ?_)
        refine x_aload_n C 30 0 dX8_behind_30 rfl ?_
        refine fgc_X8_42 C 31 dX8_behind_31 ?_
        refine x_iload_n C 34 1 dX8_behind_34 rfl ?_
        refine Y_bnd1 (fun s_35 h35 => ?_)
        refine x_callVv C 35 [.ref (zA (Zc V) (gR σ 0 4)), .ref (zA (Zc V) 28), .int v1] [] rfl tw_744 mv_X4_play (Nat.le_of_ble_eq_true rfl) (Nat.le_of_ble_eq_true rfl) (Nat.le_of_ble_eq_true rfl) (ltP_0 (by decide)) (kP_0 V (by decide) _) rfl dX8_behind_35 (c_X4_play V _ _ _ (by decide) _ hf27 _ h35) ?_
        refine x_aload_n C 38 0 dX8_behind_38 rfl ?_
        refine fgc_X8_64 C 39 dX8_behind_39 ?_
        refine x_iload_n C 42 2 dX8_behind_42 rfl ?_
        refine x_iload_n C 43 3 dX8_behind_43 rfl ?_
        refine Y_bnd1 (fun r44 h44 => ?_)
        refine x_callVi C 44 [.int v2, .int v3] [] rfl tw_873 mv_X4_cellBehind (Nat.le_of_ble_eq_true rfl) (Nat.le_of_ble_eq_true rfl) (Nat.le_of_ble_eq_true rfl) (ltP_0 (by decide)) (kP_0 V (by decide) _) rfl dX8_behind_44 (c_X4_cellBehind V _ _ _ (by decide) _ _ h44) ?_
        exact x_iret2 C R 47 dX8_behind_47
      · refine x_iconst C 20 dX8_behind_20 ki_0 ?_
        exact x_iret2 C R 21 dX8_behind_21
def M_X8_fork (σ : Wd) (v1 : Int32) (v2 : Int32) : Option (Int32 × Wd) :=
  bnd1 (M_X8_areCopies σ v1 v2) fun r3 => if r3 ≠ 0 then (bnd1 (M_X4_line σ 108 v1) fun s_20 => bnd1 (M_X4_line s_20 116 v2) fun s_32 => bnd1 (M_X1_alikeFromStart s_32 (108 + 3) 60 (gI s_32 108 2) (116 + 3) 60 (gI s_32 116 2)) fun r63 => some (r63, s_32)) else (some ((-1 : Int32), σ))
set_option maxRecDepth 100000 in
set_option maxHeartbeats 4000000 in
theorem c_X8_fork (V : Ct_V) (l : Launch) (σ : Wd) (v1 : Int32) (v2 : Int32) {r : Int32} {σ2 : Wd} (h : M_X8_fork σ v1 v2 = some (r, σ2)) : Ct l (Zc V) yX8_fork cX8_fork 3 (some .int) 3 73 [.ref (zA (Zc V) 0), .int v1, .int v2] σ (some (.int r)) σ2 := by
  refine Ct_intro (own := RX8) zc_ok (by decide +kernel) rfl (Nat.le_of_ble_eq_true rfl) [(0, .ref (zA (Zc V) 0)), (1, .int v1), (2, .int v2)] rfl (fun K C R hKl hnL => ?_)
  have hN := nl_of hnL
  subst hKl
  refine Y_end h ?_
  unfold M_X8_fork
  refine x_aload_n C 0 0 dX8_fork_0 rfl ?_
  refine x_iload_n C 1 1 dX8_fork_1 rfl ?_
  refine x_iload_n C 2 2 dX8_fork_2 rfl ?_
  refine Y_bnd1 (fun r3 h3 => ?_)
  refine x_callVi C 3 [.int v1, .int v2] [] rfl tw_812 mv_X8_areCopies (Nat.le_of_ble_eq_true rfl) (Nat.le_of_ble_eq_true rfl) (Nat.le_of_ble_eq_true rfl) (Nat.le_of_ble_eq_true rfl) (kc_0 V _) rfl dX8_fork_3 (c_X8_areCopies V _ _ _ _ h3) ?_
  refine x_if_ne C 6 11 dX8_fork_6 (by decide) (fun _ => ?_) (fun _ => ?_)
  · refine x_aload_n C 11 0 dX8_fork_11 rfl ?_
    refine fgc_X8_64 C 12 dX8_fork_12 ?_
    refine x_aload_n C 15 0 dX8_fork_15 rfl ?_
    refine fgc_X8_42 C 16 dX8_fork_16 ?_
    refine x_iload_n C 19 1 dX8_fork_19 rfl ?_
    refine Y_bnd1 (fun s_20 h20 => ?_)
    refine x_callVv C 20 [.ref (zA (Zc V) 28), .int v1] [] rfl tw_878 mv_X4_line (Nat.le_of_ble_eq_true rfl) (Nat.le_of_ble_eq_true rfl) (Nat.le_of_ble_eq_true rfl) (ltP_0 (by decide)) (kP_0 V (by decide) _) rfl dX8_fork_20 (c_X4_line V _ _ _ (by decide) _ h20) ?_
    refine x_aload_n C 23 0 dX8_fork_23 rfl ?_
    refine fgc_X8_68 C 24 dX8_fork_24 ?_
    refine x_aload_n C 27 0 dX8_fork_27 rfl ?_
    refine fgc_X8_42 C 28 dX8_fork_28 ?_
    refine x_iload_n C 31 2 dX8_fork_31 rfl ?_
    refine Y_bnd1 (fun s_32 h32 => ?_)
    refine x_callVv C 32 [.ref (zA (Zc V) 28), .int v2] [] rfl tw_878 mv_X4_line (Nat.le_of_ble_eq_true rfl) (Nat.le_of_ble_eq_true rfl) (Nat.le_of_ble_eq_true rfl) (ltP_0 (by decide)) (kP_0 V (by decide) _) rfl dX8_fork_32 (c_X4_line V _ _ _ (by decide) _ h32) ?_
    refine x_aload_n C 35 0 dX8_fork_35 rfl ?_
    refine fgc_X8_64 C 36 dX8_fork_36 ?_
    refine fgf_X8_209 (by decide) C 39 dX8_fork_39 ?_
    refine x_aload_n C 42 0 dX8_fork_42 rfl ?_
    refine fgc_X8_64 C 43 dX8_fork_43 ?_
    refine fgf_X8_206 (by decide) C 46 dX8_fork_46 ?_
    refine x_aload_n C 49 0 dX8_fork_49 rfl ?_
    refine fgc_X8_68 C 50 dX8_fork_50 ?_
    refine fgf_X8_209 (by decide) C 53 dX8_fork_53 ?_
    refine x_aload_n C 56 0 dX8_fork_56 rfl ?_
    refine fgc_X8_68 C 57 dX8_fork_57 ?_
    refine fgf_X8_206 (by decide) C 60 dX8_fork_60 ?_
    refine Y_bnd1 (fun r63 h63 => ?_)
    refine x_callSi C 63 [.ref (zA (Zc V) (108 + 3)), .int (gI s_32 108 2), .ref (zA (Zc V) (116 + 3)), .int (gI s_32 116 2)] [] rfl tw_1012 ms_X1_alikeFromStart (Nat.le_of_ble_eq_true rfl) (Nat.le_of_ble_eq_true rfl) (Nat.le_of_ble_eq_true rfl) dX8_fork_63 (c_X1_alikeFromStart V _ _ _ _ (ltP_3 (by decide)) (kP_3 V (by decide)) _ _ _ (ltP_3 (by decide)) (kP_3 V (by decide)) _ h63) ?_
    exact x_iret2 C R 66 dX8_fork_66
  · refine x_iconst C 9 dX8_fork_9 ki_m1 ?_
    exact x_iret2 C R 10 dX8_fork_10
def M_X8_key_L44 (v2 : Int32) (v3 : Int32) (v4 : Int32) (v5 : Int32) (σ : Wd) : Option ((Int32 × Int32 × Int32 × Wd) ⊕ (Int32 × Int32 × Wd)) :=
  if (gI σ 108 2) ≤ v5 then (some (.inr (v3, v4, σ))) else (chk (famT (gR σ 0 4)) (bnd1 (M_X4_weigh σ 108 (gR σ 0 4) v5) fun s_70 => if (gI s_70 108 7) ≤ v3 then (lt (v5 + (1 : Int32)) fun v5_104 => some (.inl (v3, v4, v5_104, s_70))) else (lt (gI s_70 108 7) fun v3_91 => chk (ib v5 60) (lt (gI s_70 (108 + 3) (ix v5)) fun v4_102 => lt (v5 + (1 : Int32)) fun v5_104 => some (.inl (v3_91, v4_102, v5_104, s_70))))))
def M_X8_key (σ : Wd) (v1 : Int32) (v2 : Int32) : Option (Int32 × Wd) :=
  bnd1 (M_X8_isCopy σ v1) fun r2 => if r2 = 0 then (some ((-1 : Int32), σ)) else (if v2 < 0 then (some ((-1 : Int32), σ)) else (if v2 ≤ (1 : Int32) then (chk (famT (gR σ 0 4)) (bnd1 (M_X4_play σ 108 (gR σ 0 4) v1) fun s_32 => bnd1 (iter (fun s : Int32 × Int32 × Int32 × Wd => M_X8_key_L44 v2 s.1 s.2.1 s.2.2.1 s.2.2.2) FU ((0 : Int32), (-2 : Int32), (0 : Int32), s_32)) (un3 fun x3_44 x4_44 sx_44 => (if x4_44 ≠ (-2 : Int32) then (if v2 ≠ 0 then (some (x3_44, sx_44)) else (some (x4_44, sx_44))) else (some ((-2 : Int32), sx_44)))))) else (some ((-1 : Int32), σ))))
set_option maxRecDepth 100000 in
set_option maxHeartbeats 4000000 in
theorem c_X8_key (V : Ct_V) (l : Launch) (σ : Wd) (v1 : Int32) (v2 : Int32) {r : Int32} {σ2 : Wd} (h : M_X8_key σ v1 v2 = some (r, σ2)) : Ct l (Zc V) yX8_key cX8_key 6 (some .int) 4 108 [.ref (zA (Zc V) 0), .int v1, .int v2] σ (some (.int r)) σ2 := by
  refine Ct_intro (own := RX8) zc_ok (by decide +kernel) rfl (Nat.le_of_ble_eq_true rfl) [(0, .ref (zA (Zc V) 0)), (1, .int v1), (2, .int v2)] rfl (fun K C R hKl hnL => ?_)
  have hN := nl_of hnL
  subst hKl
  refine Y_end h ?_
  unfold M_X8_key
  refine x_aload_n C 0 0 dX8_key_0 rfl ?_
  refine x_iload_n C 1 1 dX8_key_1 rfl ?_
  refine Y_bnd1 (fun r2 h2 => ?_)
  refine x_callVi C 2 [.int v1] [] rfl tw_637 mv_X8_isCopy (Nat.le_of_ble_eq_true rfl) (Nat.le_of_ble_eq_true rfl) (Nat.le_of_ble_eq_true rfl) (Nat.le_of_ble_eq_true rfl) (kc_0 V _) rfl dX8_key_2 (c_X8_isCopy V _ _ _ h2) ?_
  refine x_if_eq C 5 17 dX8_key_5 (by decide) (fun _ => ?_) (fun _ => ?_)
  · refine x_iconst C 17 dX8_key_17 ki_m1 ?_
    exact x_iret2 C R 18 dX8_key_18
  · refine x_iload_n C 8 2 dX8_key_8 rfl ?_
    refine x_if_lt C 9 17 dX8_key_9 (by decide) (fun _ => ?_) (fun _ => ?_)
    · refine x_iconst C 17 dX8_key_17 ki_m1 ?_
      exact x_iret2 C R 18 dX8_key_18
    · refine x_iload_n C 12 2 dX8_key_12 rfl ?_
      refine x_iconst C 13 dX8_key_13 ki_1 ?_
      refine x_icmp_le C 14 19 dX8_key_14 (by decide) (fun _ => ?_) (fun _ => ?_)
      · refine x_aload_n C 19 0 dX8_key_19 rfl ?_
        refine fgc_X8_64 C 20 dX8_key_20 ?_
        refine x_aload_n C 23 0 dX8_key_23 rfl ?_
        refine fgc_X8_23 C 24 dX8_key_24 ?_
        refine Y_chk (fun hf24 => ?_)
        refine x_aload_n C 27 0 dX8_key_27 rfl ?_
        refine fgc_X8_42 C 28 dX8_key_28 ?_
        refine x_iload_n C 31 1 dX8_key_31 rfl ?_
        refine Y_bnd1 (fun s_32 h32 => ?_)
        refine x_callVv C 32 [.ref (zA (Zc V) (gR σ 0 4)), .ref (zA (Zc V) 28), .int v1] [] rfl tw_744 mv_X4_play (Nat.le_of_ble_eq_true rfl) (Nat.le_of_ble_eq_true rfl) (Nat.le_of_ble_eq_true rfl) (ltP_0 (by decide)) (kP_0 V (by decide) _) rfl dX8_key_32 (c_X4_play V _ _ _ (by decide) _ hf24 _ h32) ?_
        refine x_iconst C 35 dX8_key_35 ki_0 ?_
        refine x_istore_n C 36 (L' := [(3, .int (0 : Int32)), (0, .ref (zA (Zc V) 0)), (1, .int v1), (2, .int v2)]) dX8_key_36 rfl (hN _ (Nat.le_of_ble_eq_true rfl)) rfl ?_
        refine x_bipush C 37 dX8_key_37 kb_m2 ?_
        refine x_istore C 39 (L' := [(4, .int (-2 : Int32)), (3, .int (0 : Int32)), (0, .ref (zA (Zc V) 0)), (1, .int v1), (2, .int v2)]) dX8_key_39 (hN _ (Nat.le_of_ble_eq_true rfl)) rfl ?_
        refine x_iconst C 41 dX8_key_41 ki_0 ?_
        refine x_istore C 42 (L' := [(5, .int (0 : Int32)), (4, .int (-2 : Int32)), (3, .int (0 : Int32)), (0, .ref (zA (Zc V) 0)), (1, .int v1), (2, .int v2)]) dX8_key_42 (hN _ (Nat.le_of_ble_eq_true rfl)) rfl ?_
        refine Y_sub [3, 5, 2, 1, 0] rfl ?_
        refine x_loop 44 (fun s : Int32 × Int32 × Int32 × Wd => s.2.2.2) (fun s : Int32 × Int32 × Int32 × Wd => [(0, .ref (zA (Zc V) 0)), (2, .int v2), (3, .int s.1), (4, .int s.2.1), (5, .int s.2.2.1)]) (fun E44 hb44 hx44 s => ?_) FU ((0 : Int32), (-2 : Int32), (0 : Int32), s_32)
        obtain ⟨v3_44, v4_44, v5_44, s_44⟩ := s
        show Y K (Zc V) (M_X8_key_L44 v2 v3_44 v4_44 v5_44 s_44) E44 s_44 44 [(0, .ref (zA (Zc V) 0)), (2, .int v2), (3, .int v3_44), (4, .int v4_44), (5, .int v5_44)] []
        unfold M_X8_key_L44
        refine x_iload C 44 4 dX8_key_44 rfl ?_
        refine x_aload_n C 46 0 dX8_key_46 rfl ?_
        refine fgc_X8_64 C 47 dX8_key_47 ?_
        refine fgf_X8_206 (by decide) C 50 dX8_key_50 ?_
        refine x_icmp_ge C 53 110 dX8_key_53 (by decide) (fun _ => ?_) (fun _ => ?_)
        · refine x_ex3 hx44 v3_44 v4_44 s_44 ?_
          refine x_iload C 110 3 dX8_key_110 rfl ?_
          refine x_bipush C 112 dX8_key_112 kb_m2 ?_
          refine x_icmp_ne C 114 120 dX8_key_114 (by decide) (fun _ => ?_) (fun _ => ?_)
          · refine x_iload_n C 120 1 dX8_key_120 rfl ?_
            refine x_if_ne C 121 129 dX8_key_121 (by decide) (fun _ => ?_) (fun _ => ?_)
            · refine x_iload_n C 129 2 dX8_key_129 rfl ?_
              exact x_iret2 C R 130 dX8_key_130
            · refine x_iload C 124 3 dX8_key_124 rfl ?_
              refine x_goto C 126 130 dX8_key_126 (by decide) ?_
              exact x_iret2 C R 130 dX8_key_130
          · refine x_bipush C 117 dX8_key_117 kb_m2 ?_
            exact x_iret2 C R 119 dX8_key_119
        · refine x_aload_n C 56 0 dX8_key_56 rfl ?_
          refine fgc_X8_64 C 57 dX8_key_57 ?_
          refine x_aload_n C 60 0 dX8_key_60 rfl ?_
          refine fgc_X8_23 C 61 dX8_key_61 ?_
          refine Y_chk (fun hf61 => ?_)
          refine x_aload_n C 64 0 dX8_key_64 rfl ?_
          refine fgc_X8_42 C 65 dX8_key_65 ?_
          refine x_iload C 68 4 dX8_key_68 rfl ?_
          refine Y_bnd1 (fun s_70 h70 => ?_)
          refine x_callVv C 70 [.ref (zA (Zc V) (gR s_44 0 4)), .ref (zA (Zc V) 28), .int v5_44] [] rfl tw_996 mv_X4_weigh (Nat.le_of_ble_eq_true rfl) (Nat.le_of_ble_eq_true rfl) (Nat.le_of_ble_eq_true rfl) (ltP_0 (by decide)) (kP_0 V (by decide) _) rfl dX8_key_70 (c_X4_weigh V _ _ _ (by decide) _ hf61 _ h70) ?_
          refine x_aload_n C 73 0 dX8_key_73 rfl ?_
          refine fgc_X8_64 C 74 dX8_key_74 ?_
          refine fgf_X8_294 (by decide) C 77 dX8_key_77 ?_
          refine x_iload_n C 80 2 dX8_key_80 rfl ?_
          refine x_icmp_le C 81 104 dX8_key_81 (by decide) (fun _ => ?_) (fun _ => ?_)
          · refine x_iinct C 104 4 (1 : Int32) (fun v5_104 => [(5, .int v5_104), (0, .ref (zA (Zc V) 0)), (2, .int v2), (3, .int v3_44), (4, .int v4_44)]) dX8_key_104 rfl ki_1 (hN _ (Nat.le_of_ble_eq_true rfl)) (fun _ => rfl) (fun v5_104 => ?_)
            refine x_goto C 107 44 dX8_key_107 (by decide) ?_
            refine Y_sub [1, 2, 3, 4, 0] rfl ?_
            exact x_back (v3_44, v4_44, v5_104, s_70) (hb44 (v3_44, v4_44, v5_104, s_70))
          · refine x_aload_n C 84 0 dX8_key_84 rfl ?_
            refine fgc_X8_64 C 85 dX8_key_85 ?_
            refine fgf_X8_294 (by decide) C 88 dX8_key_88 ?_
            refine x_istore_nt C 91 (fun v3_91 => [(3, .int v3_91), (0, .ref (zA (Zc V) 0)), (2, .int v2), (4, .int v4_44), (5, .int v5_44)]) dX8_key_91 rfl (hN _ (Nat.le_of_ble_eq_true rfl)) (fun _ => rfl) (fun v3_91 => ?_)
            refine x_aload_n C 92 1 dX8_key_92 rfl ?_
            refine fgc_X8_64 C 93 dX8_key_93 ?_
            refine fgf_X8_209 (by decide) C 96 dX8_key_96 ?_
            refine x_iload C 99 4 dX8_key_99 rfl ?_
            refine x_iald C 101 (ltP_3 (by decide)) (kP_3 V (by decide) _) dX8_key_101 (fun _ => ?_)
            refine x_istoret C 102 (fun v4_102 => [(4, .int v4_102), (3, .int v3_91), (0, .ref (zA (Zc V) 0)), (2, .int v2), (5, .int v5_44)]) dX8_key_102 (hN _ (Nat.le_of_ble_eq_true rfl)) (fun _ => rfl) (fun v4_102 => ?_)
            refine x_iinct C 104 4 (1 : Int32) (fun v5_104 => [(5, .int v5_104), (4, .int v4_102), (3, .int v3_91), (0, .ref (zA (Zc V) 0)), (2, .int v2)]) dX8_key_104 rfl ki_1 (hN _ (Nat.le_of_ble_eq_true rfl)) (fun _ => rfl) (fun v5_104 => ?_)
            refine x_goto C 107 44 dX8_key_107 (by decide) ?_
            refine Y_sub [3, 4, 2, 1, 0] rfl ?_
            exact x_back (v3_91, v4_102, v5_104, s_70) (hb44 (v3_91, v4_102, v5_104, s_70))
      · refine x_iconst C 17 dX8_key_17 ki_m1 ?_
        exact x_iret2 C R 18 dX8_key_18
def M_X8_share (σ : Wd) (v1 : Int32) : Option Int32 :=
  bnd1 (M_X8_isCopy σ v1) fun r2 => if r2 ≠ 0 then (bnd1 (M_X1_writes σ) fun r14 => if r14 ≠ 0 then (bnd1 (M_X1_setOf σ v1) fun r32 => bnd1 (M_J13_bitCount_95d88 r32) fun r35 => chk (nn32 (FP.fmul (1148846080 : UInt32) (FP.i2f r35))) (chk (nn32 (FP.fdiv (FP.fmul (1148846080 : UInt32) (FP.i2f r35)) (FP.i2f r14))) (lt (FP.fdiv (FP.fmul (1148846080 : UInt32) (FP.i2f r35)) (FP.i2f r14)) fun v3_43 => some (FP.f2i v3_43)))) else (some (0 : Int32))) else (some (-1 : Int32))
set_option maxRecDepth 100000 in
set_option maxHeartbeats 4000000 in
theorem c_X8_share (V : Ct_V) (l : Launch) (σ : Wd) (v1 : Int32) {r : Int32} (h : M_X8_share σ v1 = some r) : Ct l (Zc V) yX8_share cX8_share 4 (some .int) 1 21 [.ref (zA (Zc V) 0), .int v1] σ (some (.int r)) σ := by
  refine Ct_intro (own := RX8) zc_ok (by decide +kernel) rfl (Nat.le_of_ble_eq_true rfl) [(0, .ref (zA (Zc V) 0)), (1, .int v1)] rfl (fun K C R hKl hnL => ?_)
  have hN := nl_of hnL
  subst hKl
  refine Y_end h ?_
  unfold M_X8_share
  refine x_aload_n C 0 0 dX8_share_0 rfl ?_
  refine x_iload_n C 1 1 dX8_share_1 rfl ?_
  refine Y_bnd1 (fun r2 h2 => ?_)
  refine x_callVi C 2 [.int v1] [] rfl tw_637 mv_X8_isCopy (Nat.le_of_ble_eq_true rfl) (Nat.le_of_ble_eq_true rfl) (Nat.le_of_ble_eq_true rfl) (Nat.le_of_ble_eq_true rfl) (kc_0 V _) rfl dX8_share_2 (c_X8_isCopy V _ _ _ h2) ?_
  refine x_if_ne C 5 10 dX8_share_5 (by decide) (fun _ => ?_) (fun _ => ?_)
  · refine x_aload_n C 10 0 dX8_share_10 rfl ?_
    refine fgc_X8_42 C 11 dX8_share_11 ?_
    refine Y_bnd1 (fun r14 h14 => ?_)
    refine x_callVi C 14 [] [] rfl tw_689 mv_X1_writes (Nat.le_of_ble_eq_true rfl) (Nat.le_of_ble_eq_true rfl) (Nat.le_of_ble_eq_true rfl) (Nat.le_of_ble_eq_true rfl) (kc_28 V _) rfl dX8_share_14 (c_X1_writes V _ _  h14) ?_
    refine x_istore_n C 17 (L' := [(2, .int r14), (0, .ref (zA (Zc V) 0)), (1, .int v1)]) dX8_share_17 rfl (hN _ (Nat.le_of_ble_eq_true rfl)) rfl ?_
    refine x_iload_n C 18 0 dX8_share_18 rfl ?_
    refine x_if_ne C 19 24 dX8_share_19 (by decide) (fun _ => ?_) (fun _ => ?_)
    · refine x_ldcfw C 24 (hw := tw_1021) dX8_share_24 ?_
      refine x_aload_n C 27 1 dX8_share_27 rfl ?_
      refine fgc_X8_42 C 28 dX8_share_28 ?_
      refine x_iload_n C 31 2 dX8_share_31 rfl ?_
      refine Y_bnd1 (fun r32 h32 => ?_)
      refine x_callVl C 32 [.int v1] [.float (1148846080 : UInt32)] rfl tw_922 mv_X1_setOf (Nat.le_of_ble_eq_true rfl) (Nat.le_of_ble_eq_true rfl) (Nat.le_of_ble_eq_true rfl) (Nat.le_of_ble_eq_true rfl) (kc_28 V _) rfl dX8_share_32 (c_X1_setOf V _ _ _ h32) ?_
      refine Y_bnd1 (fun r35 h35 => ?_)
      refine x_callSi C 35 [.long r32] [.float (1148846080 : UInt32)] rfl tw_923 ms_J13_bitCount_95d88 (Nat.le_of_ble_eq_true rfl) (Nat.le_of_ble_eq_true rfl) (Nat.le_of_ble_eq_true rfl) dX8_share_35 (c_J13_bitCount_95d88 V _ _ _ h35) ?_
      refine x_i2f C 38 dX8_share_38 ?_
      refine Y_chk (fun q39 => ?_)
      refine x_fmul C 39 dX8_share_39 q39 ?_
      refine x_iload_n C 40 0 dX8_share_40 rfl ?_
      refine x_i2f C 41 dX8_share_41 ?_
      refine Y_chk (fun q42 => ?_)
      refine x_fdiv C 42 dX8_share_42 q42 ?_
      refine x_fstore_nt C 43 (fun v3_43 => [(3, .float v3_43), (2, .int r14), (0, .ref (zA (Zc V) 0)), (1, .int v1)]) dX8_share_43 rfl (hN _ (Nat.le_of_ble_eq_true rfl)) (fun _ => rfl) (fun v3_43 => ?_)
      refine x_fload_n C 44 0 dX8_share_44 rfl ?_
      refine x_f2i C 45 dX8_share_45 ?_
      exact x_iret1 C R 46 dX8_share_46
    · refine x_iconst C 22 dX8_share_22 ki_0 ?_
      exact x_iret1 C R 23 dX8_share_23
  · refine x_iconst C 8 dX8_share_8 ki_m1 ?_
    exact x_iret1 C R 9 dX8_share_9
def M_X8_setter (σ : Wd) (v1 : Int32) (v2 : Int32) : Option (Int32 × Wd) :=
  bnd1 (M_X8_isCopy σ v1) fun r2 => if r2 = 0 then (some ((-1 : Int32), σ)) else (bnd1 (M_X8_isCell σ v2) fun r10 => if r10 ≠ 0 then (chk (famT (gR σ 0 4)) (bnd1 (M_X4_play σ 108 (gR σ 0 4) v1) fun s_31 => bnd1 (M_X4_setterOf s_31 108 v2) fun r39 => some (r39, s_31))) else (some ((-1 : Int32), σ)))
set_option maxRecDepth 100000 in
set_option maxHeartbeats 4000000 in
theorem c_X8_setter (V : Ct_V) (l : Launch) (σ : Wd) (v1 : Int32) (v2 : Int32) {r : Int32} {σ2 : Wd} (h : M_X8_setter σ v1 v2 = some (r, σ2)) : Ct l (Zc V) yX8_setter cX8_setter 3 (some .int) 4 108 [.ref (zA (Zc V) 0), .int v1, .int v2] σ (some (.int r)) σ2 := by
  refine Ct_intro (own := RX8) zc_ok (by decide +kernel) rfl (Nat.le_of_ble_eq_true rfl) [(0, .ref (zA (Zc V) 0)), (1, .int v1), (2, .int v2)] rfl (fun K C R hKl hnL => ?_)
  have hN := nl_of hnL
  subst hKl
  refine Y_end h ?_
  unfold M_X8_setter
  refine x_aload_n C 0 0 dX8_setter_0 rfl ?_
  refine x_iload_n C 1 1 dX8_setter_1 rfl ?_
  refine Y_bnd1 (fun r2 h2 => ?_)
  refine x_callVi C 2 [.int v1] [] rfl tw_637 mv_X8_isCopy (Nat.le_of_ble_eq_true rfl) (Nat.le_of_ble_eq_true rfl) (Nat.le_of_ble_eq_true rfl) (Nat.le_of_ble_eq_true rfl) (kc_0 V _) rfl dX8_setter_2 (c_X8_isCopy V _ _ _ h2) ?_
  refine x_if_eq C 5 16 dX8_setter_5 (by decide) (fun _ => ?_) (fun _ => ?_)
  · refine x_iconst C 16 dX8_setter_16 ki_m1 ?_
    exact x_iret2 C R 17 dX8_setter_17
  · refine x_aload_n C 8 0 dX8_setter_8 rfl ?_
    refine x_iload_n C 9 2 dX8_setter_9 rfl ?_
    refine Y_bnd1 (fun r10 h10 => ?_)
    refine x_callVi C 10 [.int v2] [] rfl tw_736 mv_X8_isCell (Nat.le_of_ble_eq_true rfl) (Nat.le_of_ble_eq_true rfl) (Nat.le_of_ble_eq_true rfl) (Nat.le_of_ble_eq_true rfl) (kc_0 V _) rfl dX8_setter_10 (c_X8_isCell V _ _ _ h10) ?_
    refine x_if_ne C 13 18 dX8_setter_13 (by decide) (fun _ => ?_) (fun _ => ?_)
    · refine x_aload_n C 18 0 dX8_setter_18 rfl ?_
      refine fgc_X8_64 C 19 dX8_setter_19 ?_
      refine x_aload_n C 22 0 dX8_setter_22 rfl ?_
      refine fgc_X8_23 C 23 dX8_setter_23 ?_
      refine Y_chk (fun hf23 => ?_)
      refine x_aload_n C 26 0 dX8_setter_26 rfl ?_
      refine fgc_X8_42 C 27 dX8_setter_27 ?_
      refine x_iload_n C 30 1 dX8_setter_30 rfl ?_
      refine Y_bnd1 (fun s_31 h31 => ?_)
      refine x_callVv C 31 [.ref (zA (Zc V) (gR σ 0 4)), .ref (zA (Zc V) 28), .int v1] [] rfl tw_744 mv_X4_play (Nat.le_of_ble_eq_true rfl) (Nat.le_of_ble_eq_true rfl) (Nat.le_of_ble_eq_true rfl) (ltP_0 (by decide)) (kP_0 V (by decide) _) rfl dX8_setter_31 (c_X4_play V _ _ _ (by decide) _ hf23 _ h31) ?_
      refine x_aload_n C 34 0 dX8_setter_34 rfl ?_
      refine fgc_X8_64 C 35 dX8_setter_35 ?_
      refine x_iload_n C 38 2 dX8_setter_38 rfl ?_
      refine Y_bnd1 (fun r39 h39 => ?_)
      refine x_callVi C 39 [.int v2] [] rfl tw_1026 mv_X4_setterOf (Nat.le_of_ble_eq_true rfl) (Nat.le_of_ble_eq_true rfl) (Nat.le_of_ble_eq_true rfl) (ltP_0 (by decide)) (kP_0 V (by decide) _) rfl dX8_setter_39 (c_X4_setterOf V _ _ _ (by decide) _ h39) ?_
      exact x_iret2 C R 42 dX8_setter_42
    · refine x_iconst C 16 dX8_setter_16 ki_m1 ?_
      exact x_iret2 C R 17 dX8_setter_17
def M_X8_ahead (σ : Wd) (v1 : Int32) (v2 : Int32) (v3 : Int32) : Option (Int32 × Wd) :=
  bnd1 (M_X8_isCopy σ v1) fun r2 => if r2 = 0 then (some ((-1 : Int32), σ)) else (bnd1 (M_X8_isWrite σ v2) fun r10 => if r10 = 0 then (some ((-1 : Int32), σ)) else (bnd1 (M_X8_isWrite σ v3) fun r18 => if r18 = 0 then (some ((-1 : Int32), σ)) else (if v2 ≠ v3 then (bnd1 (M_X1_hasIt σ v1 v2) fun r37 => if r37 = 0 then (some ((-2 : Int32), σ)) else (bnd1 (M_X1_hasIt σ v1 v3) fun r49 => if r49 ≠ 0 then (bnd1 (M_X4_line σ 108 v1) fun s_67 => bnd1 (M_X4_placeOf s_67 108 v2) fun r75 => bnd1 (M_X4_placeOf s_67 108 v3) fun r83 => if r83 ≤ r75 then (some ((0 : Int32), s_67)) else (some ((1 : Int32), s_67))) else (some ((-2 : Int32), σ)))) else (some ((-1 : Int32), σ)))))
set_option maxRecDepth 100000 in
set_option maxHeartbeats 4000000 in
theorem c_X8_ahead (V : Ct_V) (l : Launch) (σ : Wd) (v1 : Int32) (v2 : Int32) (v3 : Int32) {r : Int32} {σ2 : Wd} (h : M_X8_ahead σ v1 v2 v3 = some (r, σ2)) : Ct l (Zc V) yX8_ahead cX8_ahead 4 (some .int) 3 73 [.ref (zA (Zc V) 0), .int v1, .int v2, .int v3] σ (some (.int r)) σ2 := by
  refine Ct_intro (own := RX8) zc_ok (by decide +kernel) rfl (Nat.le_of_ble_eq_true rfl) [(0, .ref (zA (Zc V) 0)), (1, .int v1), (2, .int v2), (3, .int v3)] rfl (fun K C R hKl hnL => ?_)
  have hN := nl_of hnL
  subst hKl
  refine Y_end h ?_
  unfold M_X8_ahead
  refine x_aload_n C 0 0 dX8_ahead_0 rfl ?_
  refine x_iload_n C 1 1 dX8_ahead_1 rfl ?_
  refine Y_bnd1 (fun r2 h2 => ?_)
  refine x_callVi C 2 [.int v1] [] rfl tw_637 mv_X8_isCopy (Nat.le_of_ble_eq_true rfl) (Nat.le_of_ble_eq_true rfl) (Nat.le_of_ble_eq_true rfl) (Nat.le_of_ble_eq_true rfl) (kc_0 V _) rfl dX8_ahead_2 (c_X8_isCopy V _ _ _ h2) ?_
  refine x_if_eq C 5 29 dX8_ahead_5 (by decide) (fun _ => ?_) (fun _ => ?_)
  · refine x_iconst C 29 dX8_ahead_29 ki_m1 ?_
    exact x_iret2 C R 30 dX8_ahead_30
  · refine x_aload_n C 8 0 dX8_ahead_8 rfl ?_
    refine x_iload_n C 9 2 dX8_ahead_9 rfl ?_
    refine Y_bnd1 (fun r10 h10 => ?_)
    refine x_callVi C 10 [.int v2] [] rfl tw_883 mv_X8_isWrite (Nat.le_of_ble_eq_true rfl) (Nat.le_of_ble_eq_true rfl) (Nat.le_of_ble_eq_true rfl) (Nat.le_of_ble_eq_true rfl) (kc_0 V _) rfl dX8_ahead_10 (c_X8_isWrite V _ _ _ h10) ?_
    refine x_if_eq C 13 29 dX8_ahead_13 (by decide) (fun _ => ?_) (fun _ => ?_)
    · refine x_iconst C 29 dX8_ahead_29 ki_m1 ?_
      exact x_iret2 C R 30 dX8_ahead_30
    · refine x_aload_n C 16 0 dX8_ahead_16 rfl ?_
      refine x_iload_n C 17 3 dX8_ahead_17 rfl ?_
      refine Y_bnd1 (fun r18 h18 => ?_)
      refine x_callVi C 18 [.int v3] [] rfl tw_883 mv_X8_isWrite (Nat.le_of_ble_eq_true rfl) (Nat.le_of_ble_eq_true rfl) (Nat.le_of_ble_eq_true rfl) (Nat.le_of_ble_eq_true rfl) (kc_0 V _) rfl dX8_ahead_18 (c_X8_isWrite V _ _ _ h18) ?_
      refine x_if_eq C 21 29 dX8_ahead_21 (by decide) (fun _ => ?_) (fun _ => ?_)
      · refine x_iconst C 29 dX8_ahead_29 ki_m1 ?_
        exact x_iret2 C R 30 dX8_ahead_30
      · refine x_iload_n C 24 2 dX8_ahead_24 rfl ?_
        refine x_iload_n C 25 3 dX8_ahead_25 rfl ?_
        refine x_icmp_ne C 26 31 dX8_ahead_26 (by decide) (fun _ => ?_) (fun _ => ?_)
        · refine x_aload_n C 31 0 dX8_ahead_31 rfl ?_
          refine fgc_X8_42 C 32 dX8_ahead_32 ?_
          refine x_iload_n C 35 1 dX8_ahead_35 rfl ?_
          refine x_iload_n C 36 2 dX8_ahead_36 rfl ?_
          refine Y_bnd1 (fun r37 h37 => ?_)
          refine x_callVi C 37 [.int v1, .int v2] [] rfl tw_887 mv_X1_hasIt (Nat.le_of_ble_eq_true rfl) (Nat.le_of_ble_eq_true rfl) (Nat.le_of_ble_eq_true rfl) (Nat.le_of_ble_eq_true rfl) (kc_28 V _) rfl dX8_ahead_37 (c_X1_hasIt V _ _ _ _ h37) ?_
          refine x_if_eq C 40 55 dX8_ahead_40 (by decide) (fun _ => ?_) (fun _ => ?_)
          · refine x_bipush C 55 dX8_ahead_55 kb_m2 ?_
            exact x_iret2 C R 57 dX8_ahead_57
          · refine x_aload_n C 43 0 dX8_ahead_43 rfl ?_
            refine fgc_X8_42 C 44 dX8_ahead_44 ?_
            refine x_iload_n C 47 1 dX8_ahead_47 rfl ?_
            refine x_iload_n C 48 3 dX8_ahead_48 rfl ?_
            refine Y_bnd1 (fun r49 h49 => ?_)
            refine x_callVi C 49 [.int v1, .int v3] [] rfl tw_887 mv_X1_hasIt (Nat.le_of_ble_eq_true rfl) (Nat.le_of_ble_eq_true rfl) (Nat.le_of_ble_eq_true rfl) (Nat.le_of_ble_eq_true rfl) (kc_28 V _) rfl dX8_ahead_49 (c_X1_hasIt V _ _ _ _ h49) ?_
            refine x_if_ne C 52 58 dX8_ahead_52 (by decide) (fun _ => ?_) (fun _ => ?_)
            · refine x_aload_n C 58 0 dX8_ahead_58 rfl ?_
              refine fgc_X8_64 C 59 dX8_ahead_59 ?_
              refine x_aload_n C 62 0 dX8_ahead_62 rfl ?_
              refine fgc_X8_42 C 63 dX8_ahead_63 ?_
              refine x_iload_n C 66 1 dX8_ahead_66 rfl ?_
              refine Y_bnd1 (fun s_67 h67 => ?_)
              refine x_callVv C 67 [.ref (zA (Zc V) 28), .int v1] [] rfl tw_878 mv_X4_line (Nat.le_of_ble_eq_true rfl) (Nat.le_of_ble_eq_true rfl) (Nat.le_of_ble_eq_true rfl) (ltP_0 (by decide)) (kP_0 V (by decide) _) rfl dX8_ahead_67 (c_X4_line V _ _ _ (by decide) _ h67) ?_
              refine x_aload_n C 70 0 dX8_ahead_70 rfl ?_
              refine fgc_X8_64 C 71 dX8_ahead_71 ?_
              refine x_iload_n C 74 2 dX8_ahead_74 rfl ?_
              refine Y_bnd1 (fun r75 h75 => ?_)
              refine x_callVi C 75 [.int v2] [] rfl tw_888 mv_X4_placeOf (Nat.le_of_ble_eq_true rfl) (Nat.le_of_ble_eq_true rfl) (Nat.le_of_ble_eq_true rfl) (ltP_0 (by decide)) (kP_0 V (by decide) _) rfl dX8_ahead_75 (c_X4_placeOf V _ _ _ (by decide) _ h75) ?_
              refine x_aload_n C 78 0 dX8_ahead_78 rfl ?_
              refine fgc_X8_64 C 79 dX8_ahead_79 ?_
              refine x_iload_n C 82 3 dX8_ahead_82 rfl ?_
              refine Y_bnd1 (fun r83 h83 => ?_)
              refine x_callVi C 83 [.int v3] [.int r75] rfl tw_888 mv_X4_placeOf (Nat.le_of_ble_eq_true rfl) (Nat.le_of_ble_eq_true rfl) (Nat.le_of_ble_eq_true rfl) (ltP_0 (by decide)) (kP_0 V (by decide) _) rfl dX8_ahead_83 (c_X4_placeOf V _ _ _ (by decide) _ h83) ?_
              refine x_icmp_ge C 86 93 dX8_ahead_86 (by decide) (fun _ => ?_) (fun _ => ?_)
              · refine x_iconst C 93 dX8_ahead_93 ki_0 ?_
                exact x_iret2 C R 94 dX8_ahead_94
              · refine x_iconst C 89 dX8_ahead_89 ki_1 ?_
                refine x_goto C 90 94 dX8_ahead_90 (by decide) ?_
                exact x_iret2 C R 94 dX8_ahead_94
            · refine x_bipush C 55 dX8_ahead_55 kb_m2 ?_
              exact x_iret2 C R 57 dX8_ahead_57
        · refine x_iconst C 29 dX8_ahead_29 ki_m1 ?_
          exact x_iret2 C R 30 dX8_ahead_30
def M_X8_may_J53 (σ : Wd) (v1 : Int32) (v2 : Int32) (v3 : Int32) (v4 : Int32) (t0 : Int32) : Option ((Int32 × Int32) ⊕ (Int32)) :=
  if t0 ≠ 0 then (lt (v4 + (1 : Int32)) fun v4_67 => some (.inl (v3, v4_67))) else (lt (v3 ||| ((1 : Int32) <<< (v4 &&& 31))) fun v3_66 => lt (v4 + (1 : Int32)) fun v4_67 => some (.inl (v3_66, v4_67)))
def M_X8_may_L14 (σ : Wd) (v1 : Int32) (v2 : Int32) (v3 : Int32) (v4 : Int32) : Option ((Int32 × Int32) ⊕ (Int32)) :=
  chk (famT (gR σ 0 4)) (if (gI σ (gR σ 0 4) 0) ≤ v4 then (some (.inr v3)) else (if v2 = 0 then (bnd1 (M_X1_refusesAsk σ v1 v4) fun r50 => M_X8_may_J53 σ v1 v2 v3 v4 r50) else (bnd1 (M_X1_refusesMake σ v1 v4) fun r37 => M_X8_may_J53 σ v1 v2 v3 v4 r37)))
def M_X8_may (σ : Wd) (v1 : Int32) (v2 : Int32) : Option Int32 :=
  bnd1 (M_X8_isSession v1) fun r1 => if r1 ≠ 0 then (bnd1 (iter (fun s : Int32 × Int32 => M_X8_may_L14 σ v1 v2 s.1 s.2) FU ((0 : Int32), (0 : Int32))) (un1 fun x3_14 => (some x3_14))) else (some (-1 : Int32))
set_option maxRecDepth 100000 in
set_option maxHeartbeats 4000000 in
theorem c_X8_may (V : Ct_V) (l : Launch) (σ : Wd) (v1 : Int32) (v2 : Int32) {r : Int32} (h : M_X8_may σ v1 v2 = some r) : Ct l (Zc V) yX8_may cX8_may 6 (some .int) 5 113 [.ref (zA (Zc V) 0), .int v1, .int v2] σ (some (.int r)) σ := by
  refine Ct_intro (own := RX8) zc_ok (by decide +kernel) rfl (Nat.le_of_ble_eq_true rfl) [(0, .ref (zA (Zc V) 0)), (1, .int v1), (2, .int v2)] rfl (fun K C R hKl hnL => ?_)
  have hN := nl_of hnL
  subst hKl
  refine Y_end h ?_
  unfold M_X8_may
  refine x_iload_n C 0 1 dX8_may_0 rfl ?_
  refine Y_bnd1 (fun r1 h1 => ?_)
  refine x_callSi C 1 [.int v1] [] rfl tw_634 ms_X8_isSession (Nat.le_of_ble_eq_true rfl) (Nat.le_of_ble_eq_true rfl) (Nat.le_of_ble_eq_true rfl) dX8_may_1 (c_X8_isSession V _ _ _ h1) ?_
  refine x_if_ne C 4 9 dX8_may_4 (by decide) (fun _ => ?_) (fun _ => ?_)
  · refine x_iconst C 9 dX8_may_9 ki_0 ?_
    refine x_istore_n C 10 (L' := [(3, .int (0 : Int32)), (0, .ref (zA (Zc V) 0)), (1, .int v1), (2, .int v2)]) dX8_may_10 rfl (hN _ (Nat.le_of_ble_eq_true rfl)) rfl ?_
    refine x_iconst C 11 dX8_may_11 ki_0 ?_
    refine x_istore C 12 (L' := [(4, .int (0 : Int32)), (3, .int (0 : Int32)), (0, .ref (zA (Zc V) 0)), (1, .int v1), (2, .int v2)]) dX8_may_12 (hN _ (Nat.le_of_ble_eq_true rfl)) rfl ?_
    refine Y_sub [2, 3, 4, 1, 0] rfl ?_
    refine x_loop 14 (fun s : Int32 × Int32 => σ) (fun s : Int32 × Int32 => [(0, .ref (zA (Zc V) 0)), (1, .int v1), (2, .int v2), (3, .int s.1), (4, .int s.2)]) (fun E14 hb14 hx14 s => ?_) FU ((0 : Int32), (0 : Int32))
    obtain ⟨v3_14, v4_14⟩ := s
    show Y K (Zc V) (M_X8_may_L14 σ v1 v2 v3_14 v4_14) E14 σ 14 [(0, .ref (zA (Zc V) 0)), (1, .int v1), (2, .int v2), (3, .int v3_14), (4, .int v4_14)] []
    unfold M_X8_may_L14
    refine x_iload C 14 4 dX8_may_14 rfl ?_
    refine x_aload_n C 16 0 dX8_may_16 rfl ?_
    refine fgc_X8_23 C 17 dX8_may_17 ?_
    refine Y_chk (fun hf17 => ?_)
    refine fgf_X8_78 (hf17) C 20 dX8_may_20 ?_
    refine x_icmp_ge C 23 73 dX8_may_23 (by decide) (fun _ => ?_) (fun _ => ?_)
    · refine x_ex1 hx14 v3_14 ?_
      refine x_iload_n C 73 3 dX8_may_73 rfl ?_
      exact x_iret1 C R 74 dX8_may_74
    · refine x_iload_n C 26 2 dX8_may_26 rfl ?_
      have hJ53 : ∀ (v3_53 : Int32) (v4_53 : Int32) (t0_53 : Int32), Y K (Zc V) (M_X8_may_J53 σ v1 v2 v3_53 v4_53 t0_53) E14 σ 53 [(0, .ref (zA (Zc V) 0)), (1, .int v1), (2, .int v2), (3, .int v3_53), (4, .int v4_53)] [.int t0_53] := by
        intro v3_53 v4_53 t0_53
        unfold M_X8_may_J53
        refine x_istore C 53 (L' := [(5, .int t0_53), (0, .ref (zA (Zc V) 0)), (1, .int v1), (2, .int v2), (3, .int v3_53), (4, .int v4_53)]) dX8_may_53 (hN _ (Nat.le_of_ble_eq_true rfl)) rfl ?_
        refine x_iload C 55 0 dX8_may_55 rfl ?_
        refine x_if_ne C 57 67 dX8_may_57 (by decide) (fun _ => ?_) (fun _ => ?_)
        · refine x_iinct C 67 5 (1 : Int32) (fun v4_67 => [(4, .int v4_67), (5, .int t0_53), (0, .ref (zA (Zc V) 0)), (1, .int v1), (2, .int v2), (3, .int v3_53)]) dX8_may_67 rfl ki_1 (hN _ (Nat.le_of_ble_eq_true rfl)) (fun _ => rfl) (fun v4_67 => ?_)
          refine x_goto C 70 14 dX8_may_70 (by decide) ?_
          refine Y_sub [2, 3, 4, 5, 0] rfl ?_
          exact x_back (v3_53, v4_67) (hb14 (v3_53, v4_67))
        · refine x_iload_n C 60 4 dX8_may_60 rfl ?_
          refine x_iconst C 61 dX8_may_61 ki_1 ?_
          refine x_iload C 62 5 dX8_may_62 rfl ?_
          refine x_ishl C 64 dX8_may_64 ?_
          refine x_ior C 65 dX8_may_65 ?_
          refine x_istore_nt C 66 (fun v3_66 => [(3, .int v3_66), (5, .int t0_53), (0, .ref (zA (Zc V) 0)), (1, .int v1), (2, .int v2), (4, .int v4_53)]) dX8_may_66 rfl (hN _ (Nat.le_of_ble_eq_true rfl)) (fun _ => rfl) (fun v3_66 => ?_)
          refine x_iinct C 67 5 (1 : Int32) (fun v4_67 => [(4, .int v4_67), (3, .int v3_66), (5, .int t0_53), (0, .ref (zA (Zc V) 0)), (1, .int v1), (2, .int v2)]) dX8_may_67 rfl ki_1 (hN _ (Nat.le_of_ble_eq_true rfl)) (fun _ => rfl) (fun v4_67 => ?_)
          refine x_goto C 70 14 dX8_may_70 (by decide) ?_
          refine Y_sub [3, 4, 5, 1, 0] rfl ?_
          exact x_back (v3_66, v4_67) (hb14 (v3_66, v4_67))
      refine x_if_eq C 27 43 dX8_may_27 (by decide) (fun _ => ?_) (fun _ => ?_)
      · refine x_aload_n C 43 0 dX8_may_43 rfl ?_
        refine fgc_X8_42 C 44 dX8_may_44 ?_
        refine x_iload_n C 47 1 dX8_may_47 rfl ?_
        refine x_iload C 48 4 dX8_may_48 rfl ?_
        refine Y_bnd1 (fun r50 h50 => ?_)
        refine x_callVi C 50 [.int v1, .int v4_14] [] rfl tw_740 mv_X1_refusesAsk (Nat.le_of_ble_eq_true rfl) (Nat.le_of_ble_eq_true rfl) (Nat.le_of_ble_eq_true rfl) (Nat.le_of_ble_eq_true rfl) (kc_28 V _) rfl dX8_may_50 (c_X1_refusesAsk V _ _ _ _ h50) ?_
        exact hJ53 _ _ _
      · refine x_aload_n C 30 0 dX8_may_30 rfl ?_
        refine fgc_X8_42 C 31 dX8_may_31 ?_
        refine x_iload_n C 34 1 dX8_may_34 rfl ?_
        refine x_iload C 35 4 dX8_may_35 rfl ?_
        refine Y_bnd1 (fun r37 h37 => ?_)
        refine x_callVi C 37 [.int v1, .int v4_14] [] rfl tw_653 mv_X1_refusesMake (Nat.le_of_ble_eq_true rfl) (Nat.le_of_ble_eq_true rfl) (Nat.le_of_ble_eq_true rfl) (Nat.le_of_ble_eq_true rfl) (kc_28 V _) rfl dX8_may_37 (c_X1_refusesMake V _ _ _ _ h37) ?_
        refine x_goto C 40 53 dX8_may_40 (by decide) ?_
        exact hJ53 _ _ _
  · refine x_iconst C 7 dX8_may_7 ki_m1 ?_
    exact x_iret1 C R 8 dX8_may_8
def M_X8_plan (σ : Wd) (v1 : Int32) : Option Int32 :=
  if v1 < 0 then (some (-1 : Int32)) else (if v1 ≤ (2 : Int32) then (bnd1 (M_X1_planGivers σ) fun r15 => bnd1 (M_X1_planTakers σ r15) fun r24 => if v1 ≠ 0 then (if v1 ≠ (1 : Int32) then (some r24) else (some r15)) else (bnd1 (M_J6_bitCount_0f7a4 r15) fun r33 => bnd1 (M_J6_bitCount_0f7a4 r24) fun r37 => some (r33 + r37))) else (some (-1 : Int32)))
set_option maxRecDepth 100000 in
set_option maxHeartbeats 4000000 in
theorem c_X8_plan (V : Ct_V) (l : Launch) (σ : Wd) (v1 : Int32) {r : Int32} (h : M_X8_plan σ v1 = some r) : Ct l (Zc V) yX8_plan cX8_plan 4 (some .int) 3 71 [.ref (zA (Zc V) 0), .int v1] σ (some (.int r)) σ := by
  refine Ct_intro (own := RX8) zc_ok (by decide +kernel) rfl (Nat.le_of_ble_eq_true rfl) [(0, .ref (zA (Zc V) 0)), (1, .int v1)] rfl (fun K C R hKl hnL => ?_)
  have hN := nl_of hnL
  subst hKl
  refine Y_end h ?_
  unfold M_X8_plan
  refine x_iload_n C 0 1 dX8_plan_0 rfl ?_
  refine x_if_lt C 1 9 dX8_plan_1 (by decide) (fun _ => ?_) (fun _ => ?_)
  · refine x_iconst C 9 dX8_plan_9 ki_m1 ?_
    exact x_iret1 C R 10 dX8_plan_10
  · refine x_iload_n C 4 1 dX8_plan_4 rfl ?_
    refine x_iconst C 5 dX8_plan_5 ki_2 ?_
    refine x_icmp_le C 6 11 dX8_plan_6 (by decide) (fun _ => ?_) (fun _ => ?_)
    · refine x_aload_n C 11 0 dX8_plan_11 rfl ?_
      refine fgc_X8_42 C 12 dX8_plan_12 ?_
      refine Y_bnd1 (fun r15 h15 => ?_)
      refine x_callVi C 15 [] [] rfl tw_1042 mv_X1_planGivers (Nat.le_of_ble_eq_true rfl) (Nat.le_of_ble_eq_true rfl) (Nat.le_of_ble_eq_true rfl) (Nat.le_of_ble_eq_true rfl) (kc_28 V _) rfl dX8_plan_15 (c_X1_planGivers V _ _  h15) ?_
      refine x_istore_n C 18 (L' := [(2, .int r15), (0, .ref (zA (Zc V) 0)), (1, .int v1)]) dX8_plan_18 rfl (hN _ (Nat.le_of_ble_eq_true rfl)) rfl ?_
      refine x_aload_n C 19 1 dX8_plan_19 rfl ?_
      refine fgc_X8_42 C 20 dX8_plan_20 ?_
      refine x_iload_n C 23 0 dX8_plan_23 rfl ?_
      refine Y_bnd1 (fun r24 h24 => ?_)
      refine x_callVi C 24 [.int r15] [] rfl tw_1060 mv_X1_planTakers (Nat.le_of_ble_eq_true rfl) (Nat.le_of_ble_eq_true rfl) (Nat.le_of_ble_eq_true rfl) (Nat.le_of_ble_eq_true rfl) (kc_28 V _) rfl dX8_plan_24 (c_X1_planTakers V _ _ _ h24) ?_
      refine x_istore_n C 27 (L' := [(3, .int r24), (2, .int r15), (0, .ref (zA (Zc V) 0)), (1, .int v1)]) dX8_plan_27 rfl (hN _ (Nat.le_of_ble_eq_true rfl)) rfl ?_
      refine x_iload_n C 28 3 dX8_plan_28 rfl ?_
      refine x_if_ne C 29 42 dX8_plan_29 (by decide) (fun _ => ?_) (fun _ => ?_)
      · refine x_iload_n C 42 3 dX8_plan_42 rfl ?_
        refine x_iconst C 43 dX8_plan_43 ki_1 ?_
        refine x_icmp_ne C 44 51 dX8_plan_44 (by decide) (fun _ => ?_) (fun _ => ?_)
        · refine x_iload_n C 51 0 dX8_plan_51 rfl ?_
          exact x_iret1 C R 52 dX8_plan_52
        · refine x_iload_n C 47 1 dX8_plan_47 rfl ?_
          refine x_goto C 48 52 dX8_plan_48 (by decide) ?_
          exact x_iret1 C R 52 dX8_plan_52
      · refine x_iload_n C 32 1 dX8_plan_32 rfl ?_
        refine Y_bnd1 (fun r33 h33 => ?_)
        refine x_callSi C 33 [.int r15] [] rfl tw_1064 ms_J6_bitCount_0f7a4 (Nat.le_of_ble_eq_true rfl) (Nat.le_of_ble_eq_true rfl) (Nat.le_of_ble_eq_true rfl) dX8_plan_33 (c_J6_bitCount_0f7a4 V _ _ _ h33) ?_
        refine x_iload_n C 36 0 dX8_plan_36 rfl ?_
        refine Y_bnd1 (fun r37 h37 => ?_)
        refine x_callSi C 37 [.int r24] [.int r33] rfl tw_1064 ms_J6_bitCount_0f7a4 (Nat.le_of_ble_eq_true rfl) (Nat.le_of_ble_eq_true rfl) (Nat.le_of_ble_eq_true rfl) dX8_plan_37 (c_J6_bitCount_0f7a4 V _ _ _ h37) ?_
        refine x_iadd C 40 dX8_plan_40 ?_
        exact x_iret1 C R 41 dX8_plan_41
    · refine x_iconst C 9 dX8_plan_9 ki_m1 ?_
      exact x_iret1 C R 10 dX8_plan_10
def M_X8_clash_L28 (σ : Wd) (v2 : Int32) : Option ((Int32) ⊕ ((Unit) ⊕ (Int32 × Wd))) :=
  if (gI σ 108 2) ≤ v2 then (some (.inr (.inl ()))) else (bnd1 (M_X4_outcomeAt σ 108 v2) fun r44 => if r44 = 0 then (lt (v2 + (1 : Int32)) fun v2_60 => some (.inl v2_60)) else (chk (ib v2 60) (some (.inr (.inr ((gI σ (108 + 3) (ix v2)), σ))))))
def M_X8_clash (σ : Wd) (v1 : Int32) : Option (Int32 × Wd) :=
  bnd1 (M_X8_isCopy σ v1) fun r2 => if r2 ≠ 0 then (chk (famT (gR σ 0 4)) (bnd1 (M_X4_play σ 108 (gR σ 0 4) v1) fun s_23 => bnd1 (iter (fun s : Int32 => M_X8_clash_L28 s_23 s) FU (0 : Int32)) (sx (un0 (some ((-2 : Int32), s_23))) (fun q => some q)))) else (some ((-1 : Int32), σ))
set_option maxRecDepth 100000 in
set_option maxHeartbeats 4000000 in
theorem c_X8_clash (V : Ct_V) (l : Launch) (σ : Wd) (v1 : Int32) {r : Int32} {σ2 : Wd} (h : M_X8_clash σ v1 = some (r, σ2)) : Ct l (Zc V) yX8_clash cX8_clash 3 (some .int) 4 108 [.ref (zA (Zc V) 0), .int v1] σ (some (.int r)) σ2 := by
  refine Ct_intro (own := RX8) zc_ok (by decide +kernel) rfl (Nat.le_of_ble_eq_true rfl) [(0, .ref (zA (Zc V) 0)), (1, .int v1)] rfl (fun K C R hKl hnL => ?_)
  have hN := nl_of hnL
  subst hKl
  refine Y_end h ?_
  unfold M_X8_clash
  refine x_aload_n C 0 0 dX8_clash_0 rfl ?_
  refine x_iload_n C 1 1 dX8_clash_1 rfl ?_
  refine Y_bnd1 (fun r2 h2 => ?_)
  refine x_callVi C 2 [.int v1] [] rfl tw_637 mv_X8_isCopy (Nat.le_of_ble_eq_true rfl) (Nat.le_of_ble_eq_true rfl) (Nat.le_of_ble_eq_true rfl) (Nat.le_of_ble_eq_true rfl) (kc_0 V _) rfl dX8_clash_2 (c_X8_isCopy V _ _ _ h2) ?_
  refine x_if_ne C 5 10 dX8_clash_5 (by decide) (fun _ => ?_) (fun _ => ?_)
  · refine x_aload_n C 10 0 dX8_clash_10 rfl ?_
    refine fgc_X8_64 C 11 dX8_clash_11 ?_
    refine x_aload_n C 14 0 dX8_clash_14 rfl ?_
    refine fgc_X8_23 C 15 dX8_clash_15 ?_
    refine Y_chk (fun hf15 => ?_)
    refine x_aload_n C 18 0 dX8_clash_18 rfl ?_
    refine fgc_X8_42 C 19 dX8_clash_19 ?_
    refine x_iload_n C 22 1 dX8_clash_22 rfl ?_
    refine Y_bnd1 (fun s_23 h23 => ?_)
    refine x_callVv C 23 [.ref (zA (Zc V) (gR σ 0 4)), .ref (zA (Zc V) 28), .int v1] [] rfl tw_744 mv_X4_play (Nat.le_of_ble_eq_true rfl) (Nat.le_of_ble_eq_true rfl) (Nat.le_of_ble_eq_true rfl) (ltP_0 (by decide)) (kP_0 V (by decide) _) rfl dX8_clash_23 (c_X4_play V _ _ _ (by decide) _ hf15 _ h23) ?_
    refine x_iconst C 26 dX8_clash_26 ki_0 ?_
    refine x_istore_n C 27 (L' := [(2, .int (0 : Int32)), (0, .ref (zA (Zc V) 0)), (1, .int v1)]) dX8_clash_27 rfl (hN _ (Nat.le_of_ble_eq_true rfl)) rfl ?_
    refine Y_sub [1, 0] rfl ?_
    refine x_loop 28 (fun s : Int32 => s_23) (fun s : Int32 => [(0, .ref (zA (Zc V) 0)), (2, .int s)]) (fun E28 hb28 hx28 s => ?_) FU (0 : Int32)
    obtain ⟨v2_28, rfl⟩ : ∃ z, z = s := ⟨s, rfl⟩
    show Y K (Zc V) (M_X8_clash_L28 s_23 v2_28) E28 s_23 28 [(0, .ref (zA (Zc V) 0)), (2, .int v2_28)] []
    unfold M_X8_clash_L28
    refine x_iload_n C 28 1 dX8_clash_28 rfl ?_
    refine x_aload_n C 29 0 dX8_clash_29 rfl ?_
    refine fgc_X8_64 C 30 dX8_clash_30 ?_
    refine fgf_X8_206 (by decide) C 33 dX8_clash_33 ?_
    refine x_icmp_ge C 36 66 dX8_clash_36 (by decide) (fun _ => ?_) (fun _ => ?_)
    · refine x_exl0 hx28 ?_
      refine x_bipush C 66 dX8_clash_66 kb_m2 ?_
      exact x_iret2 C R 68 dX8_clash_68
    · refine x_aload_n C 39 0 dX8_clash_39 rfl ?_
      refine fgc_X8_64 C 40 dX8_clash_40 ?_
      refine x_iload_n C 43 1 dX8_clash_43 rfl ?_
      refine Y_bnd1 (fun r44 h44 => ?_)
      refine x_callVi C 44 [.int v2_28] [] rfl tw_892 mv_X4_outcomeAt (Nat.le_of_ble_eq_true rfl) (Nat.le_of_ble_eq_true rfl) (Nat.le_of_ble_eq_true rfl) (ltP_0 (by decide)) (kP_0 V (by decide) _) rfl dX8_clash_44 (c_X4_outcomeAt V _ _ _ (by decide) _ h44) ?_
      refine x_if_eq C 47 60 dX8_clash_47 (by decide) (fun _ => ?_) (fun _ => ?_)
      · refine x_iinct C 60 1 (1 : Int32) (fun v2_60 => [(2, .int v2_60), (0, .ref (zA (Zc V) 0))]) dX8_clash_60 rfl ki_1 (hN _ (Nat.le_of_ble_eq_true rfl)) (fun _ => rfl) (fun v2_60 => ?_)
        refine x_goto C 63 28 dX8_clash_63 (by decide) ?_
        refine Y_sub [1, 0] rfl ?_
        exact x_back v2_60 (hb28 v2_60)
      · refine x_aload_n C 50 0 dX8_clash_50 rfl ?_
        refine fgc_X8_64 C 51 dX8_clash_51 ?_
        refine fgf_X8_209 (by decide) C 54 dX8_clash_54 ?_
        refine x_iload_n C 57 1 dX8_clash_57 rfl ?_
        refine x_iald C 58 (ltP_3 (by decide)) (kP_3 V (by decide) _) dX8_clash_58 (fun _ => ?_)
        refine x_exr hx28 _ ?_
        exact x_iret2 C R 59 dX8_clash_59
  · refine x_iconst C 8 dX8_clash_8 ki_m1 ?_
    exact x_iret2 C R 9 dX8_clash_9
def M_X8_soon_L13 (v1 : Int32) (σ : Wd) : Option ((Int32 × Wd) ⊕ ((Wd) ⊕ (Int32 × Wd))) :=
  if (60 : Int32) < v1 then (some (.inr (.inl σ))) else (bnd1 (M_X5_isSettled σ) fun r23 => if r23 = 0 then (chk (famT (gR σ 0 4)) (bnd1 (M_X1_chances σ) fun r46 => bnd1 (M_X5_letMeet σ (gI σ (gR σ 0 4) 2) (r46 + v1)) fun s_51 => lt (v1 + (1 : Int32)) fun v1_54 => some (.inl (v1_54, s_51)))) else (some (.inr (.inr (v1, σ)))))
def M_X8_soon (σ : Wd) : Option (Int32 × Wd) :=
  bnd1 (M_X5_begin σ) fun s_8 => bnd1 (iter (fun s : Int32 × Wd => M_X8_soon_L13 s.1 s.2) FU ((0 : Int32), s_8)) (sx (un1 fun sx_13 => (some ((-2 : Int32), sx_13))) (fun q => some q))
set_option maxRecDepth 100000 in
set_option maxHeartbeats 4000000 in
theorem c_X8_soon (V : Ct_V) (l : Launch) (σ : Wd) {r : Int32} {σ2 : Wd} (h : M_X8_soon σ = some (r, σ2)) : Ct l (Zc V) yX8_soon cX8_soon 2 (some .int) 4 93 [.ref (zA (Zc V) 0)] σ (some (.int r)) σ2 := by
  refine Ct_intro (own := RX8) zc_ok (by decide +kernel) rfl (Nat.le_of_ble_eq_true rfl) [(0, .ref (zA (Zc V) 0))] rfl (fun K C R hKl hnL => ?_)
  have hN := nl_of hnL
  subst hKl
  refine Y_end h ?_
  unfold M_X8_soon
  refine x_aload_n C 0 0 dX8_soon_0 rfl ?_
  refine fgc_X8_74 C 1 dX8_soon_1 ?_
  refine x_aload_n C 4 0 dX8_soon_4 rfl ?_
  refine fgc_X8_42 C 5 dX8_soon_5 ?_
  refine Y_bnd1 (fun s_8 h8 => ?_)
  refine x_callVv C 8 [.ref (zA (Zc V) 28)] [] rfl tw_1073 mv_X5_begin (Nat.le_of_ble_eq_true rfl) (Nat.le_of_ble_eq_true rfl) (Nat.le_of_ble_eq_true rfl) (Nat.le_of_ble_eq_true rfl) (kc_124 V _) rfl dX8_soon_8 (c_X5_begin V _ _  h8) ?_
  refine x_iconst C 11 dX8_soon_11 ki_0 ?_
  refine x_istore_n C 12 (L' := [(1, .int (0 : Int32)), (0, .ref (zA (Zc V) 0))]) dX8_soon_12 rfl (hN _ (Nat.le_of_ble_eq_true rfl)) rfl ?_
  refine Y_sub [1, 0] rfl ?_
  refine x_loop 13 (fun s : Int32 × Wd => s.2) (fun s : Int32 × Wd => [(0, .ref (zA (Zc V) 0)), (1, .int s.1)]) (fun E13 hb13 hx13 s => ?_) FU ((0 : Int32), s_8)
  obtain ⟨v1_13, s_13⟩ := s
  show Y K (Zc V) (M_X8_soon_L13 v1_13 s_13) E13 s_13 13 [(0, .ref (zA (Zc V) 0)), (1, .int v1_13)] []
  unfold M_X8_soon_L13
  refine x_iload_n C 13 1 dX8_soon_13 rfl ?_
  refine x_bipush C 14 dX8_soon_14 kb_60 ?_
  refine x_icmp_gt C 16 60 dX8_soon_16 (by decide) (fun _ => ?_) (fun _ => ?_)
  · refine x_exl1 hx13 s_13 ?_
    refine x_bipush C 60 dX8_soon_60 kb_m2 ?_
    exact x_iret2 C R 62 dX8_soon_62
  · refine x_aload_n C 19 0 dX8_soon_19 rfl ?_
    refine fgc_X8_74 C 20 dX8_soon_20 ?_
    refine Y_bnd1 (fun r23 h23 => ?_)
    refine x_callVi C 23 [] [] rfl tw_1083 mv_X5_isSettled (Nat.le_of_ble_eq_true rfl) (Nat.le_of_ble_eq_true rfl) (Nat.le_of_ble_eq_true rfl) (Nat.le_of_ble_eq_true rfl) (kc_124 V _) rfl dX8_soon_23 (c_X5_isSettled V _ _  h23) ?_
    refine x_if_eq C 26 31 dX8_soon_26 (by decide) (fun _ => ?_) (fun _ => ?_)
    · refine x_aload_n C 31 0 dX8_soon_31 rfl ?_
      refine fgc_X8_74 C 32 dX8_soon_32 ?_
      refine x_aload_n C 35 0 dX8_soon_35 rfl ?_
      refine fgc_X8_23 C 36 dX8_soon_36 ?_
      refine Y_chk (fun hf36 => ?_)
      refine fgf_X8_185 (hf36) C 39 dX8_soon_39 ?_
      refine x_aload_n C 42 0 dX8_soon_42 rfl ?_
      refine fgc_X8_42 C 43 dX8_soon_43 ?_
      refine Y_bnd1 (fun r46 h46 => ?_)
      refine x_callVi C 46 [] [.int (gI s_13 (gR s_13 0 4) 2), .ref (zA (Zc V) 124)] rfl tw_840 mv_X1_chances (Nat.le_of_ble_eq_true rfl) (Nat.le_of_ble_eq_true rfl) (Nat.le_of_ble_eq_true rfl) (Nat.le_of_ble_eq_true rfl) (kc_28 V _) rfl dX8_soon_46 (c_X1_chances V _ _  h46) ?_
      refine x_iload_n C 49 1 dX8_soon_49 rfl ?_
      refine x_iadd C 50 dX8_soon_50 ?_
      refine Y_bnd1 (fun s_51 h51 => ?_)
      refine x_callVv C 51 [.int (gI s_13 (gR s_13 0 4) 2), .int (r46 + v1_13)] [] rfl tw_1087 mv_X5_letMeet (Nat.le_of_ble_eq_true rfl) (Nat.le_of_ble_eq_true rfl) (Nat.le_of_ble_eq_true rfl) (Nat.le_of_ble_eq_true rfl) (kc_124 V _) rfl dX8_soon_51 (c_X5_letMeet V _ _ _ _ h51) ?_
      refine x_iinct C 54 1 (1 : Int32) (fun v1_54 => [(1, .int v1_54), (0, .ref (zA (Zc V) 0))]) dX8_soon_54 rfl ki_1 (hN _ (Nat.le_of_ble_eq_true rfl)) (fun _ => rfl) (fun v1_54 => ?_)
      refine x_goto C 57 13 dX8_soon_57 (by decide) ?_
      refine Y_sub [1, 0] rfl ?_
      exact x_back (v1_54, s_51) (hb13 (v1_54, s_51))
    · refine x_iload_n C 29 1 dX8_soon_29 rfl ?_
      refine x_exr hx13 _ ?_
      exact x_iret2 C R 30 dX8_soon_30
def M_X8_year_L62 (v1 : Int32) (v2 : Int32) (v3 : Int32) (v4 : Int32) (v5 : Int32) (σ : Wd) : Option ((Int32 × Wd) ⊕ (Wd)) :=
  if v1 ≤ v5 then (some (.inr σ)) else (bnd1 (M_X1_chances σ) fun r78 => bnd1 (M_X5_letMeet σ v4 (r78 + v5)) fun s_84 => lt (v5 + (1 : Int32)) fun v5_87 => some (.inl (v5_87, s_84)))
def M_X8_year_L34 (v1 : Int32) (v2 : Int32) (v3 : Int32) (v4 : Int32) (σ : Wd) : Option ((Int32 × Int32 × Wd) ⊕ (Int32 × Wd)) :=
  chk (famT (gR σ 0 4)) (if ((gI σ (gR σ 0 4) 2) + v2) ≤ v4 then (some (.inr (v3, σ))) else (bnd1 (M_X5_begin σ) fun s_56 => bnd1 (iter (fun s : Int32 × Wd => M_X8_year_L62 v1 v2 v3 v4 s.1 s.2) FU ((0 : Int32), s_56)) (un1 fun sx_62 => (bnd1 (M_X5_isSettled sx_62) fun r97 => if r97 = 0 then (lt (v4 + (1 : Int32)) fun v4_106 => some (.inl (v3, v4_106, sx_62))) else (lt (v3 + (1 : Int32)) fun v3_103 => lt (v4 + (1 : Int32)) fun v4_106 => some (.inl (v3_103, v4_106, sx_62)))))))
def M_X8_year (σ : Wd) (v1 : Int32) (v2 : Int32) : Option (Int32 × Wd) :=
  if v1 < 0 then (some ((-1 : Int32), σ)) else (if (60 : Int32) < v1 then (some ((-1 : Int32), σ)) else (if v2 < (1 : Int32) then (some ((-1 : Int32), σ)) else (if v2 ≤ (20 : Int32) then (chk (famT (gR σ 0 4)) (lt (gI σ (gR σ 0 4) 2) fun v4_32 => bnd1 (iter (fun s : Int32 × Int32 × Wd => M_X8_year_L34 v1 v2 s.1 s.2.1 s.2.2) FU ((0 : Int32), v4_32, σ)) (un2 fun x3_34 sx_34 => (some (x3_34, sx_34))))) else (some ((-1 : Int32), σ)))))
set_option maxRecDepth 100000 in
set_option maxHeartbeats 4000000 in
theorem c_X8_year (V : Ct_V) (l : Launch) (σ : Wd) (v1 : Int32) (v2 : Int32) {r : Int32} {σ2 : Wd} (h : M_X8_year σ v1 v2 = some (r, σ2)) : Ct l (Zc V) yX8_year cX8_year 6 (some .int) 4 93 [.ref (zA (Zc V) 0), .int v1, .int v2] σ (some (.int r)) σ2 := by
  refine Ct_intro (own := RX8) zc_ok (by decide +kernel) rfl (Nat.le_of_ble_eq_true rfl) [(0, .ref (zA (Zc V) 0)), (1, .int v1), (2, .int v2)] rfl (fun K C R hKl hnL => ?_)
  have hN := nl_of hnL
  subst hKl
  refine Y_end h ?_
  unfold M_X8_year
  refine x_iload_n C 0 1 dX8_year_0 rfl ?_
  refine x_if_lt C 1 21 dX8_year_1 (by decide) (fun _ => ?_) (fun _ => ?_)
  · refine x_iconst C 21 dX8_year_21 ki_m1 ?_
    exact x_iret2 C R 22 dX8_year_22
  · refine x_iload_n C 4 1 dX8_year_4 rfl ?_
    refine x_bipush C 5 dX8_year_5 kb_60 ?_
    refine x_icmp_gt C 7 21 dX8_year_7 (by decide) (fun _ => ?_) (fun _ => ?_)
    · refine x_iconst C 21 dX8_year_21 ki_m1 ?_
      exact x_iret2 C R 22 dX8_year_22
    · refine x_iload_n C 10 2 dX8_year_10 rfl ?_
      refine x_iconst C 11 dX8_year_11 ki_1 ?_
      refine x_icmp_lt C 12 21 dX8_year_12 (by decide) (fun _ => ?_) (fun _ => ?_)
      · refine x_iconst C 21 dX8_year_21 ki_m1 ?_
        exact x_iret2 C R 22 dX8_year_22
      · refine x_iload_n C 15 2 dX8_year_15 rfl ?_
        refine x_bipush C 16 dX8_year_16 kb_20 ?_
        refine x_icmp_le C 18 23 dX8_year_18 (by decide) (fun _ => ?_) (fun _ => ?_)
        · refine x_iconst C 23 dX8_year_23 ki_0 ?_
          refine x_istore_n C 24 (L' := [(3, .int (0 : Int32)), (0, .ref (zA (Zc V) 0)), (1, .int v1), (2, .int v2)]) dX8_year_24 rfl (hN _ (Nat.le_of_ble_eq_true rfl)) rfl ?_
          refine x_aload_n C 25 1 dX8_year_25 rfl ?_
          refine fgc_X8_23 C 26 dX8_year_26 ?_
          refine Y_chk (fun hf26 => ?_)
          refine fgf_X8_185 (hf26) C 29 dX8_year_29 ?_
          refine x_istoret C 32 (fun v4_32 => [(4, .int v4_32), (3, .int (0 : Int32)), (0, .ref (zA (Zc V) 0)), (1, .int v1), (2, .int v2)]) dX8_year_32 (hN _ (Nat.le_of_ble_eq_true rfl)) (fun _ => rfl) (fun v4_32 => ?_)
          refine Y_sub [2, 3, 4, 1, 0] rfl ?_
          refine x_loop 34 (fun s : Int32 × Int32 × Wd => s.2.2) (fun s : Int32 × Int32 × Wd => [(0, .ref (zA (Zc V) 0)), (1, .int v1), (2, .int v2), (3, .int s.1), (4, .int s.2.1)]) (fun E34 hb34 hx34 s => ?_) FU ((0 : Int32), v4_32, σ)
          obtain ⟨v3_34, v4_34, s_34⟩ := s
          show Y K (Zc V) (M_X8_year_L34 v1 v2 v3_34 v4_34 s_34) E34 s_34 34 [(0, .ref (zA (Zc V) 0)), (1, .int v1), (2, .int v2), (3, .int v3_34), (4, .int v4_34)] []
          unfold M_X8_year_L34
          refine x_iload C 34 4 dX8_year_34 rfl ?_
          refine x_aload_n C 36 0 dX8_year_36 rfl ?_
          refine fgc_X8_23 C 37 dX8_year_37 ?_
          refine Y_chk (fun hf37 => ?_)
          refine fgf_X8_185 (hf37) C 40 dX8_year_40 ?_
          refine x_iload_n C 43 2 dX8_year_43 rfl ?_
          refine x_iadd C 44 dX8_year_44 ?_
          refine x_icmp_ge C 45 112 dX8_year_45 (by decide) (fun _ => ?_) (fun _ => ?_)
          · refine x_ex2 hx34 v3_34 s_34 ?_
            refine x_iload_n C 112 3 dX8_year_112 rfl ?_
            exact x_iret2 C R 113 dX8_year_113
          · refine x_aload_n C 48 0 dX8_year_48 rfl ?_
            refine fgc_X8_74 C 49 dX8_year_49 ?_
            refine x_aload_n C 52 0 dX8_year_52 rfl ?_
            refine fgc_X8_42 C 53 dX8_year_53 ?_
            refine Y_bnd1 (fun s_56 h56 => ?_)
            refine x_callVv C 56 [.ref (zA (Zc V) 28)] [] rfl tw_1073 mv_X5_begin (Nat.le_of_ble_eq_true rfl) (Nat.le_of_ble_eq_true rfl) (Nat.le_of_ble_eq_true rfl) (Nat.le_of_ble_eq_true rfl) (kc_124 V _) rfl dX8_year_56 (c_X5_begin V _ _  h56) ?_
            refine x_iconst C 59 dX8_year_59 ki_0 ?_
            refine x_istore C 60 (L' := [(5, .int (0 : Int32)), (0, .ref (zA (Zc V) 0)), (1, .int v1), (2, .int v2), (3, .int v3_34), (4, .int v4_34)]) dX8_year_60 (hN _ (Nat.le_of_ble_eq_true rfl)) rfl ?_
            refine Y_sub [1, 2, 3, 4, 5, 0] rfl ?_
            refine x_loop 62 (fun s : Int32 × Wd => s.2) (fun s : Int32 × Wd => [(0, .ref (zA (Zc V) 0)), (1, .int v1), (2, .int v2), (3, .int v3_34), (4, .int v4_34), (5, .int s.1)]) (fun E62 hb62 hx62 s => ?_) FU ((0 : Int32), s_56)
            obtain ⟨v5_62, s_62⟩ := s
            show Y K (Zc V) (M_X8_year_L62 v1 v2 v3_34 v4_34 v5_62 s_62) E62 s_62 62 [(0, .ref (zA (Zc V) 0)), (1, .int v1), (2, .int v2), (3, .int v3_34), (4, .int v4_34), (5, .int v5_62)] []
            unfold M_X8_year_L62
            refine x_iload C 62 5 dX8_year_62 rfl ?_
            refine x_iload_n C 64 1 dX8_year_64 rfl ?_
            refine x_icmp_ge C 65 93 dX8_year_65 (by decide) (fun _ => ?_) (fun _ => ?_)
            · refine x_ex1 hx62 s_62 ?_
              refine x_aload_n C 93 0 dX8_year_93 rfl ?_
              refine fgc_X8_74 C 94 dX8_year_94 ?_
              refine Y_bnd1 (fun r97 h97 => ?_)
              refine x_callVi C 97 [] [] rfl tw_1083 mv_X5_isSettled (Nat.le_of_ble_eq_true rfl) (Nat.le_of_ble_eq_true rfl) (Nat.le_of_ble_eq_true rfl) (Nat.le_of_ble_eq_true rfl) (kc_124 V _) rfl dX8_year_97 (c_X5_isSettled V _ _  h97) ?_
              refine x_if_eq C 100 106 dX8_year_100 (by decide) (fun _ => ?_) (fun _ => ?_)
              · refine x_iinct C 106 4 (1 : Int32) (fun v4_106 => [(4, .int v4_106), (0, .ref (zA (Zc V) 0)), (1, .int v1), (2, .int v2), (3, .int v3_34), (5, .int v5_62)]) dX8_year_106 rfl ki_1 (hN _ (Nat.le_of_ble_eq_true rfl)) (fun _ => rfl) (fun v4_106 => ?_)
                refine x_goto C 109 34 dX8_year_109 (by decide) ?_
                refine Y_sub [1, 2, 3, 4, 0] rfl ?_
                exact x_back (v3_34, v4_106, s_62) (hb34 (v3_34, v4_106, s_62))
              · refine x_iinct C 103 3 (1 : Int32) (fun v3_103 => [(3, .int v3_103), (0, .ref (zA (Zc V) 0)), (1, .int v1), (2, .int v2), (4, .int v4_34), (5, .int v5_62)]) dX8_year_103 rfl ki_1 (hN _ (Nat.le_of_ble_eq_true rfl)) (fun _ => rfl) (fun v3_103 => ?_)
                refine x_iinct C 106 4 (1 : Int32) (fun v4_106 => [(4, .int v4_106), (3, .int v3_103), (0, .ref (zA (Zc V) 0)), (1, .int v1), (2, .int v2), (5, .int v5_62)]) dX8_year_106 rfl ki_1 (hN _ (Nat.le_of_ble_eq_true rfl)) (fun _ => rfl) (fun v4_106 => ?_)
                refine x_goto C 109 34 dX8_year_109 (by decide) ?_
                refine Y_sub [2, 3, 4, 1, 0] rfl ?_
                exact x_back (v3_103, v4_106, s_62) (hb34 (v3_103, v4_106, s_62))
            · refine x_aload_n C 68 0 dX8_year_68 rfl ?_
              refine fgc_X8_74 C 69 dX8_year_69 ?_
              refine x_iload C 72 4 dX8_year_72 rfl ?_
              refine x_aload_n C 74 0 dX8_year_74 rfl ?_
              refine fgc_X8_42 C 75 dX8_year_75 ?_
              refine Y_bnd1 (fun r78 h78 => ?_)
              refine x_callVi C 78 [] [.int v4_34, .ref (zA (Zc V) 124)] rfl tw_840 mv_X1_chances (Nat.le_of_ble_eq_true rfl) (Nat.le_of_ble_eq_true rfl) (Nat.le_of_ble_eq_true rfl) (Nat.le_of_ble_eq_true rfl) (kc_28 V _) rfl dX8_year_78 (c_X1_chances V _ _  h78) ?_
              refine x_iload C 81 5 dX8_year_81 rfl ?_
              refine x_iadd C 83 dX8_year_83 ?_
              refine Y_bnd1 (fun s_84 h84 => ?_)
              refine x_callVv C 84 [.int v4_34, .int (r78 + v5_62)] [] rfl tw_1087 mv_X5_letMeet (Nat.le_of_ble_eq_true rfl) (Nat.le_of_ble_eq_true rfl) (Nat.le_of_ble_eq_true rfl) (Nat.le_of_ble_eq_true rfl) (kc_124 V _) rfl dX8_year_84 (c_X5_letMeet V _ _ _ _ h84) ?_
              refine x_iinct C 87 5 (1 : Int32) (fun v5_87 => [(5, .int v5_87), (0, .ref (zA (Zc V) 0)), (1, .int v1), (2, .int v2), (3, .int v3_34), (4, .int v4_34)]) dX8_year_87 rfl ki_1 (hN _ (Nat.le_of_ble_eq_true rfl)) (fun _ => rfl) (fun v5_87 => ?_)
              refine x_goto C 90 62 dX8_year_90 (by decide) ?_
              refine Y_sub [1, 2, 3, 4, 5, 0] rfl ?_
              exact x_back (v5_87, s_84) (hb62 (v5_87, s_84))
        · refine x_iconst C 21 dX8_year_21 ki_m1 ?_
          exact x_iret2 C R 22 dX8_year_22
def M_X8_isSlot (v1 : Int32) : Option Int32 :=
  if v1 < 0 then (some (0 : Int32)) else (if (3 : Int32) ≤ v1 then (some (0 : Int32)) else (some (1 : Int32)))
set_option maxRecDepth 100000 in
set_option maxHeartbeats 4000000 in
theorem c_X8_isSlot (V : Ct_V) (l : Launch) (σ : Wd) (v1 : Int32) {r : Int32} (h : M_X8_isSlot v1 = some r) : Ct l (Zc V) yX8_isSlot cX8_isSlot 2 (some .boolean) 0 0 [.ref (zA (Zc V) 0), .int v1] σ (some (.int r)) σ := by
  refine Ct_intro (own := RX8) zc_ok (by decide +kernel) rfl (Nat.le_of_ble_eq_true rfl) [(0, .ref (zA (Zc V) 0)), (1, .int v1)] rfl (fun K C R hKl hnL => ?_)
  have hN := nl_of hnL
  subst hKl
  refine Y_end h ?_
  unfold M_X8_isSlot
  refine x_iload_n C 0 1 dX8_isSlot_0 rfl ?_
  refine x_if_lt C 1 13 dX8_isSlot_1 (by decide) (fun _ => ?_) (fun _ => ?_)
  · refine x_iconst C 13 dX8_isSlot_13 ki_0 ?_
    exact x_zret1 C R 14 (zb_nar (r := (0 : Int32)) (Or.inl rfl)) dX8_isSlot_14
  · refine x_iload_n C 4 1 dX8_isSlot_4 rfl ?_
    refine x_iconst C 5 dX8_isSlot_5 ki_3 ?_
    refine x_icmp_ge C 6 13 dX8_isSlot_6 (by decide) (fun _ => ?_) (fun _ => ?_)
    · refine x_iconst C 13 dX8_isSlot_13 ki_0 ?_
      exact x_zret1 C R 14 (zb_nar (r := (0 : Int32)) (Or.inl rfl)) dX8_isSlot_14
    · refine x_iconst C 9 dX8_isSlot_9 ki_1 ?_
      refine x_goto C 10 14 dX8_isSlot_10 (by decide) ?_
      exact x_zret1 C R 14 (zb_nar (r := (1 : Int32)) (Or.inr rfl)) dX8_isSlot_14
def M_X8_hold (σ : Wd) (v1 : Int32) : Option (Int32 × Wd) :=
  bnd1 (M_X8_isSlot v1) fun r2 => if r2 ≠ 0 then (chk (ib v1 3) (bnd1 (M_X1_takeOver σ (37 + 9 * ix v1) 28) fun s_20 => chk (ib v1 3) (lt (uI s_20 65 (ix v1) (vp_nar .boolean (1 : Int32))) fun s_29 => some ((1 : Int32), s_29)))) else (some ((0 : Int32), σ))
set_option maxRecDepth 100000 in
set_option maxHeartbeats 4000000 in
theorem c_X8_hold (V : Ct_V) (l : Launch) (σ : Wd) (v1 : Int32) {r : Int32} {σ2 : Wd} (h : M_X8_hold σ v1 = some (r, σ2)) : Ct l (Zc V) yX8_hold cX8_hold 2 (some .boolean) 2 101 [.ref (zA (Zc V) 0), .int v1] σ (some (.int r)) σ2 := by
  refine Ct_intro (own := RX8) zc_ok (by decide +kernel) rfl (Nat.le_of_ble_eq_true rfl) [(0, .ref (zA (Zc V) 0)), (1, .int v1)] rfl (fun K C R hKl hnL => ?_)
  have hN := nl_of hnL
  subst hKl
  refine Y_end h ?_
  unfold M_X8_hold
  refine x_aload_n C 0 0 dX8_hold_0 rfl ?_
  refine x_iload_n C 1 1 dX8_hold_1 rfl ?_
  refine Y_bnd1 (fun r2 h2 => ?_)
  refine x_callVi C 2 [.int v1] [] rfl tw_1104 mv_X8_isSlot (Nat.le_of_ble_eq_true rfl) (Nat.le_of_ble_eq_true rfl) (Nat.le_of_ble_eq_true rfl) (Nat.le_of_ble_eq_true rfl) (kc_0 V _) rfl dX8_hold_2 (c_X8_isSlot V _ _ _ h2) ?_
  refine x_if_ne C 5 10 dX8_hold_5 (by decide) (fun _ => ?_) (fun _ => ?_)
  · refine x_aload_n C 10 0 dX8_hold_10 rfl ?_
    refine fgc_X8_53 C 11 dX8_hold_11 ?_
    refine x_iload_n C 14 1 dX8_hold_14 rfl ?_
    refine Y_chk (fun q15 => ?_)
    refine x_aldG C 15 q15 dX8_hold_15 ?_
    refine x_aload_n C 16 0 dX8_hold_16 rfl ?_
    refine fgc_X8_42 C 17 dX8_hold_17 ?_
    refine Y_bnd1 (fun s_20 h20 => ?_)
    refine x_callVv C 20 [.ref (zA (Zc V) 28)] [] rfl tw_1108 mv_X1_takeOver (Nat.le_of_ble_eq_true rfl) (Nat.le_of_ble_eq_true rfl) (Nat.le_of_ble_eq_true rfl) (ltG_0 (famG_sl q15)) (kG_0 V (famG_sl q15) _) rfl dX8_hold_20 (c_X1_takeOver V _ _ _ (famG_sl q15) _ (by decide) h20) ?_
    refine x_aload_n C 23 0 dX8_hold_23 rfl ?_
    refine fgc_X8_57 C 24 dX8_hold_24 ?_
    refine x_iload_n C 27 1 dX8_hold_27 rfl ?_
    refine x_iconst C 28 dX8_hold_28 ki_1 ?_
    refine x_zast C 29 (Nat.le_of_ble_eq_true rfl) (kc_65 V) dX8_hold_29 (fun _ s_29 => ?_)
    refine x_iconst C 30 dX8_hold_30 ki_1 ?_
    exact x_zret2 C R 31 (zb_nar (r := (1 : Int32)) (Or.inr rfl)) dX8_hold_31
  · refine x_iconst C 8 dX8_hold_8 ki_0 ?_
    exact x_zret2 C R 9 (zb_nar (r := (0 : Int32)) (Or.inl rfl)) dX8_hold_9
def M_X8_restore (σ : Wd) (v1 : Int32) : Option (Int32 × Wd) :=
  bnd1 (M_X8_isSlot v1) fun r2 => if r2 = 0 then (some ((0 : Int32), σ)) else (chk (ib v1 3) (if (gI σ 65 (ix v1)) ≠ 0 then (chk (ib v1 3) (bnd1 (M_X1_takeOver σ 28 (37 + 9 * ix v1)) fun s_29 => bnd1 (M_X2_forget s_29) fun s_36 => some ((1 : Int32), s_36))) else (some ((0 : Int32), σ))))
set_option maxRecDepth 100000 in
set_option maxHeartbeats 4000000 in
theorem c_X8_restore (V : Ct_V) (l : Launch) (σ : Wd) (v1 : Int32) {r : Int32} {σ2 : Wd} (h : M_X8_restore σ v1 = some (r, σ2)) : Ct l (Zc V) yX8_restore cX8_restore 2 (some .boolean) 2 101 [.ref (zA (Zc V) 0), .int v1] σ (some (.int r)) σ2 := by
  refine Ct_intro (own := RX8) zc_ok (by decide +kernel) rfl (Nat.le_of_ble_eq_true rfl) [(0, .ref (zA (Zc V) 0)), (1, .int v1)] rfl (fun K C R hKl hnL => ?_)
  have hN := nl_of hnL
  subst hKl
  refine Y_end h ?_
  unfold M_X8_restore
  refine x_aload_n C 0 0 dX8_restore_0 rfl ?_
  refine x_iload_n C 1 1 dX8_restore_1 rfl ?_
  refine Y_bnd1 (fun r2 h2 => ?_)
  refine x_callVi C 2 [.int v1] [] rfl tw_1104 mv_X8_isSlot (Nat.le_of_ble_eq_true rfl) (Nat.le_of_ble_eq_true rfl) (Nat.le_of_ble_eq_true rfl) (Nat.le_of_ble_eq_true rfl) (kc_0 V _) rfl dX8_restore_2 (c_X8_isSlot V _ _ _ h2) ?_
  refine x_if_eq C 5 17 dX8_restore_5 (by decide) (fun _ => ?_) (fun _ => ?_)
  · refine x_iconst C 17 dX8_restore_17 ki_0 ?_
    exact x_zret2 C R 18 (zb_nar (r := (0 : Int32)) (Or.inl rfl)) dX8_restore_18
  · refine x_aload_n C 8 0 dX8_restore_8 rfl ?_
    refine fgc_X8_57 C 9 dX8_restore_9 ?_
    refine x_iload_n C 12 1 dX8_restore_12 rfl ?_
    refine x_zald C 13 (Nat.le_of_ble_eq_true rfl) (kc_65 V _) dX8_restore_13 (fun _ => ?_)
    refine x_if_ne C 14 19 dX8_restore_14 (by decide) (fun _ => ?_) (fun _ => ?_)
    · refine x_aload_n C 19 0 dX8_restore_19 rfl ?_
      refine fgc_X8_42 C 20 dX8_restore_20 ?_
      refine x_aload_n C 23 0 dX8_restore_23 rfl ?_
      refine fgc_X8_53 C 24 dX8_restore_24 ?_
      refine x_iload_n C 27 1 dX8_restore_27 rfl ?_
      refine Y_chk (fun q28 => ?_)
      refine x_aldG C 28 q28 dX8_restore_28 ?_
      refine Y_bnd1 (fun s_29 h29 => ?_)
      refine x_callVv C 29 [.ref (zA (Zc V) (37 + 9 * ix v1))] [] rfl tw_1108 mv_X1_takeOver (Nat.le_of_ble_eq_true rfl) (Nat.le_of_ble_eq_true rfl) (Nat.le_of_ble_eq_true rfl) (Nat.le_of_ble_eq_true rfl) (kc_28 V _) rfl dX8_restore_29 (c_X1_takeOver V _ _ _ (by decide) _ (famG_sl q28) h29) ?_
      refine x_aload_n C 32 0 dX8_restore_32 rfl ?_
      refine fgc_X8_49 C 33 dX8_restore_33 ?_
      refine Y_bnd1 (fun s_36 h36 => ?_)
      refine x_callVv C 36 [] [] rfl tw_626 mv_X2_forget (Nat.le_of_ble_eq_true rfl) (Nat.le_of_ble_eq_true rfl) (Nat.le_of_ble_eq_true rfl) (Nat.le_of_ble_eq_true rfl) (kc_66 V _) rfl dX8_restore_36 (c_X2_forget V _ _  h36) ?_
      refine x_iconst C 39 dX8_restore_39 ki_1 ?_
      exact x_zret2 C R 40 (zb_nar (r := (1 : Int32)) (Or.inr rfl)) dX8_restore_40
    · refine x_iconst C 17 dX8_restore_17 ki_0 ?_
      exact x_zret2 C R 18 (zb_nar (r := (0 : Int32)) (Or.inl rfl)) dX8_restore_18
def M_X8_slotsHeld_L4 (σ : Wd) (v1 : Int32) (v2 : Int32) : Option ((Int32 × Int32) ⊕ (Int32)) :=
  if (3 : Int32) ≤ v2 then (some (.inr v1)) else (chk (ib v2 3) (if (gI σ 65 (ix v2)) = 0 then (lt (v2 + (1 : Int32)) fun v2_21 => some (.inl (v1, v2_21))) else (lt (v1 + (1 : Int32)) fun v1_18 => lt (v2 + (1 : Int32)) fun v2_21 => some (.inl (v1_18, v2_21)))))
def M_X8_slotsHeld (σ : Wd) : Option Int32 :=
  bnd1 (iter (fun s : Int32 × Int32 => M_X8_slotsHeld_L4 σ s.1 s.2) FU ((0 : Int32), (0 : Int32))) (un1 fun x1_4 => (some x1_4))
set_option maxRecDepth 100000 in
set_option maxHeartbeats 4000000 in
theorem c_X8_slotsHeld (V : Ct_V) (l : Launch) (σ : Wd) {r : Int32} (h : M_X8_slotsHeld σ = some r) : Ct l (Zc V) yX8_slotsHeld cX8_slotsHeld 3 (some .int) 0 0 [.ref (zA (Zc V) 0)] σ (some (.int r)) σ := by
  refine Ct_intro (own := RX8) zc_ok (by decide +kernel) rfl (Nat.le_of_ble_eq_true rfl) [(0, .ref (zA (Zc V) 0))] rfl (fun K C R hKl hnL => ?_)
  have hN := nl_of hnL
  subst hKl
  refine Y_end h ?_
  unfold M_X8_slotsHeld
  refine x_iconst C 0 dX8_slotsHeld_0 ki_0 ?_
  refine x_istore_n C 1 (L' := [(1, .int (0 : Int32)), (0, .ref (zA (Zc V) 0))]) dX8_slotsHeld_1 rfl (hN _ (Nat.le_of_ble_eq_true rfl)) rfl ?_
  refine x_iconst C 2 dX8_slotsHeld_2 ki_0 ?_
  refine x_istore_n C 3 (L' := [(2, .int (0 : Int32)), (1, .int (0 : Int32)), (0, .ref (zA (Zc V) 0))]) dX8_slotsHeld_3 rfl (hN _ (Nat.le_of_ble_eq_true rfl)) rfl ?_
  refine Y_sub [2, 1, 0] rfl ?_
  refine x_loop 4 (fun s : Int32 × Int32 => σ) (fun s : Int32 × Int32 => [(0, .ref (zA (Zc V) 0)), (1, .int s.1), (2, .int s.2)]) (fun E4 hb4 hx4 s => ?_) FU ((0 : Int32), (0 : Int32))
  obtain ⟨v1_4, v2_4⟩ := s
  show Y K (Zc V) (M_X8_slotsHeld_L4 σ v1_4 v2_4) E4 σ 4 [(0, .ref (zA (Zc V) 0)), (1, .int v1_4), (2, .int v2_4)] []
  unfold M_X8_slotsHeld_L4
  refine x_iload_n C 4 2 dX8_slotsHeld_4 rfl ?_
  refine x_iconst C 5 dX8_slotsHeld_5 ki_3 ?_
  refine x_icmp_ge C 6 27 dX8_slotsHeld_6 (by decide) (fun _ => ?_) (fun _ => ?_)
  · refine x_ex1 hx4 v1_4 ?_
    refine x_iload_n C 27 1 dX8_slotsHeld_27 rfl ?_
    exact x_iret1 C R 28 dX8_slotsHeld_28
  · refine x_aload_n C 9 0 dX8_slotsHeld_9 rfl ?_
    refine fgc_X8_57 C 10 dX8_slotsHeld_10 ?_
    refine x_iload_n C 13 2 dX8_slotsHeld_13 rfl ?_
    refine x_zald C 14 (Nat.le_of_ble_eq_true rfl) (kc_65 V _) dX8_slotsHeld_14 (fun _ => ?_)
    refine x_if_eq C 15 21 dX8_slotsHeld_15 (by decide) (fun _ => ?_) (fun _ => ?_)
    · refine x_iinct C 21 2 (1 : Int32) (fun v2_21 => [(2, .int v2_21), (0, .ref (zA (Zc V) 0)), (1, .int v1_4)]) dX8_slotsHeld_21 rfl ki_1 (hN _ (Nat.le_of_ble_eq_true rfl)) (fun _ => rfl) (fun v2_21 => ?_)
      refine x_goto C 24 4 dX8_slotsHeld_24 (by decide) ?_
      refine Y_sub [1, 2, 0] rfl ?_
      exact x_back (v1_4, v2_21) (hb4 (v1_4, v2_21))
    · refine x_iinct C 18 1 (1 : Int32) (fun v1_18 => [(1, .int v1_18), (0, .ref (zA (Zc V) 0)), (2, .int v2_4)]) dX8_slotsHeld_18 rfl ki_1 (hN _ (Nat.le_of_ble_eq_true rfl)) (fun _ => rfl) (fun v1_18 => ?_)
      refine x_iinct C 21 2 (1 : Int32) (fun v2_21 => [(2, .int v2_21), (1, .int v1_18), (0, .ref (zA (Zc V) 0))]) dX8_slotsHeld_21 rfl ki_1 (hN _ (Nat.le_of_ble_eq_true rfl)) (fun _ => rfl) (fun v2_21 => ?_)
      refine x_goto C 24 4 dX8_slotsHeld_24 (by decide) ?_
      refine Y_sub [2, 1, 0] rfl ?_
      exact x_back (v1_18, v2_21) (hb4 (v1_18, v2_21))
def M_X8_countFurther (σ : Wd) (v1 : Int32) : Option (Int32 × Wd) :=
  if v1 = (10 : Int32) then (bnd1 (M_X1_allAlike σ) fun r56 => if r56 = 0 then (some ((0 : Int32), σ)) else (some ((1 : Int32), σ))) else (if v1 = (11 : Int32) then (bnd1 (M_X8_slotsHeld σ) fun r69 => some (r69, σ)) else (if v1 = (12 : Int32) then (bnd1 (M_X1_sumOfCopies σ (26 : Int32)) fun r79 => some (r79, σ)) else (if v1 = (13 : Int32) then (bnd1 (M_X1_sumOfCopies σ (31 : Int32)) fun r89 => some (r89, σ)) else (if v1 = (14 : Int32) then (bnd1 (M_X1_knownToAll σ) fun r97 => some (r97, σ)) else (if v1 = (15 : Int32) then (bnd1 (M_X1_hadByAll σ) fun r105 => bnd1 (M_J13_bitCount_95d88 r105) fun r108 => some (r108, σ)) else (if v1 = (16 : Int32) then (bnd1 (M_X1_refusedInAll σ) fun r116 => some (r116, σ)) else (if v1 = (17 : Int32) then (bnd1 (M_X1_primary σ) fun r125 => bnd2 (M_X8_mergedOf σ r125) fun r128 s_128 => some (r128, s_128)) else (if v1 = (18 : Int32) then (bnd1 (M_X1_primary σ) fun r137 => bnd2 (M_X8_idleOrStuckOf σ r137) fun r140 s_140 => some (r140, s_140)) else (some ((-1 : Int32), σ))))))))))
set_option maxRecDepth 100000 in
set_option maxHeartbeats 4000000 in
theorem c_X8_countFurther (V : Ct_V) (l : Launch) (σ : Wd) (v1 : Int32) {r : Int32} {σ2 : Wd} (h : M_X8_countFurther σ v1 = some (r, σ2)) : Ct l (Zc V) yX8_countFurther cX8_countFurther 2 (some .int) 5 129 [.ref (zA (Zc V) 0), .int v1] σ (some (.int r)) σ2 := by
  refine Ct_intro (own := RX8) zc_ok (by decide +kernel) rfl (Nat.le_of_ble_eq_true rfl) [(0, .ref (zA (Zc V) 0)), (1, .int v1)] rfl (fun K C R hKl hnL => ?_)
  have hN := nl_of hnL
  subst hKl
  refine Y_end h ?_
  unfold M_X8_countFurther
  refine x_iload_n C 0 1 dX8_countFurther_0 rfl ?_
  refine Y_ite (fun c1 => ?_) (fun c1_10 => ?_)
  · refine x_tswIn C 1 52 (10 : Int32) c1 dX8_countFurther_1 (by decide) (by decide) rfl (by decide) ?_
    refine x_aload_n C 52 0 dX8_countFurther_52 rfl ?_
    refine fgc_X8_42 C 53 dX8_countFurther_53 ?_
    refine Y_bnd1 (fun r56 h56 => ?_)
    refine x_callVi C 56 [] [] rfl tw_1130 mv_X1_allAlike (Nat.le_of_ble_eq_true rfl) (Nat.le_of_ble_eq_true rfl) (Nat.le_of_ble_eq_true rfl) (Nat.le_of_ble_eq_true rfl) (kc_28 V _) rfl dX8_countFurther_56 (c_X1_allAlike V _ _  h56) ?_
    refine x_if_eq C 59 66 dX8_countFurther_59 (by decide) (fun _ => ?_) (fun _ => ?_)
    · refine x_iconst C 66 dX8_countFurther_66 ki_0 ?_
      exact x_iret2 C R 67 dX8_countFurther_67
    · refine x_iconst C 62 dX8_countFurther_62 ki_1 ?_
      refine x_goto C 63 67 dX8_countFurther_63 (by decide) ?_
      exact x_iret2 C R 67 dX8_countFurther_67
  refine Y_ite (fun c1 => ?_) (fun c1_11 => ?_)
  · refine x_tswIn C 1 68 (11 : Int32) c1 dX8_countFurther_1 (by decide) (by decide) rfl (by decide) ?_
    refine x_aload_n C 68 0 dX8_countFurther_68 rfl ?_
    refine Y_bnd1 (fun r69 h69 => ?_)
    refine x_callVi C 69 [] [] rfl tw_1135 mv_X8_slotsHeld (Nat.le_of_ble_eq_true rfl) (Nat.le_of_ble_eq_true rfl) (Nat.le_of_ble_eq_true rfl) (Nat.le_of_ble_eq_true rfl) (kc_0 V _) rfl dX8_countFurther_69 (c_X8_slotsHeld V _ _  h69) ?_
    exact x_iret2 C R 72 dX8_countFurther_72
  refine Y_ite (fun c1 => ?_) (fun c1_12 => ?_)
  · refine x_tswIn C 1 73 (12 : Int32) c1 dX8_countFurther_1 (by decide) (by decide) rfl (by decide) ?_
    refine x_aload_n C 73 0 dX8_countFurther_73 rfl ?_
    refine fgc_X8_42 C 74 dX8_countFurther_74 ?_
    refine x_bipush C 77 dX8_countFurther_77 kb_26 ?_
    refine Y_bnd1 (fun r79 h79 => ?_)
    refine x_callVi C 79 [.int (26 : Int32)] [] rfl tw_1121 mv_X1_sumOfCopies (Nat.le_of_ble_eq_true rfl) (Nat.le_of_ble_eq_true rfl) (Nat.le_of_ble_eq_true rfl) (Nat.le_of_ble_eq_true rfl) (kc_28 V _) rfl dX8_countFurther_79 (c_X1_sumOfCopies V _ _ _ h79) ?_
    exact x_iret2 C R 82 dX8_countFurther_82
  refine Y_ite (fun c1 => ?_) (fun c1_13 => ?_)
  · refine x_tswIn C 1 83 (13 : Int32) c1 dX8_countFurther_1 (by decide) (by decide) rfl (by decide) ?_
    refine x_aload_n C 83 0 dX8_countFurther_83 rfl ?_
    refine fgc_X8_42 C 84 dX8_countFurther_84 ?_
    refine x_bipush C 87 dX8_countFurther_87 kb_31 ?_
    refine Y_bnd1 (fun r89 h89 => ?_)
    refine x_callVi C 89 [.int (31 : Int32)] [] rfl tw_1121 mv_X1_sumOfCopies (Nat.le_of_ble_eq_true rfl) (Nat.le_of_ble_eq_true rfl) (Nat.le_of_ble_eq_true rfl) (Nat.le_of_ble_eq_true rfl) (kc_28 V _) rfl dX8_countFurther_89 (c_X1_sumOfCopies V _ _ _ h89) ?_
    exact x_iret2 C R 92 dX8_countFurther_92
  refine Y_ite (fun c1 => ?_) (fun c1_14 => ?_)
  · refine x_tswIn C 1 93 (14 : Int32) c1 dX8_countFurther_1 (by decide) (by decide) rfl (by decide) ?_
    refine x_aload_n C 93 0 dX8_countFurther_93 rfl ?_
    refine fgc_X8_42 C 94 dX8_countFurther_94 ?_
    refine Y_bnd1 (fun r97 h97 => ?_)
    refine x_callVi C 97 [] [] rfl tw_1139 mv_X1_knownToAll (Nat.le_of_ble_eq_true rfl) (Nat.le_of_ble_eq_true rfl) (Nat.le_of_ble_eq_true rfl) (Nat.le_of_ble_eq_true rfl) (kc_28 V _) rfl dX8_countFurther_97 (c_X1_knownToAll V _ _  h97) ?_
    exact x_iret2 C R 100 dX8_countFurther_100
  refine Y_ite (fun c1 => ?_) (fun c1_15 => ?_)
  · refine x_tswIn C 1 101 (15 : Int32) c1 dX8_countFurther_1 (by decide) (by decide) rfl (by decide) ?_
    refine x_aload_n C 101 0 dX8_countFurther_101 rfl ?_
    refine fgc_X8_42 C 102 dX8_countFurther_102 ?_
    refine Y_bnd1 (fun r105 h105 => ?_)
    refine x_callVl C 105 [] [] rfl tw_1144 mv_X1_hadByAll (Nat.le_of_ble_eq_true rfl) (Nat.le_of_ble_eq_true rfl) (Nat.le_of_ble_eq_true rfl) (Nat.le_of_ble_eq_true rfl) (kc_28 V _) rfl dX8_countFurther_105 (c_X1_hadByAll V _ _  h105) ?_
    refine Y_bnd1 (fun r108 h108 => ?_)
    refine x_callSi C 108 [.long r105] [] rfl tw_923 ms_J13_bitCount_95d88 (Nat.le_of_ble_eq_true rfl) (Nat.le_of_ble_eq_true rfl) (Nat.le_of_ble_eq_true rfl) dX8_countFurther_108 (c_J13_bitCount_95d88 V _ _ _ h108) ?_
    exact x_iret2 C R 111 dX8_countFurther_111
  refine Y_ite (fun c1 => ?_) (fun c1_16 => ?_)
  · refine x_tswIn C 1 112 (16 : Int32) c1 dX8_countFurther_1 (by decide) (by decide) rfl (by decide) ?_
    refine x_aload_n C 112 0 dX8_countFurther_112 rfl ?_
    refine fgc_X8_42 C 113 dX8_countFurther_113 ?_
    refine Y_bnd1 (fun r116 h116 => ?_)
    refine x_callVi C 116 [] [] rfl tw_1148 mv_X1_refusedInAll (Nat.le_of_ble_eq_true rfl) (Nat.le_of_ble_eq_true rfl) (Nat.le_of_ble_eq_true rfl) (Nat.le_of_ble_eq_true rfl) (kc_28 V _) rfl dX8_countFurther_116 (c_X1_refusedInAll V _ _  h116) ?_
    exact x_iret2 C R 119 dX8_countFurther_119
  refine Y_ite (fun c1 => ?_) (fun c1_17 => ?_)
  · refine x_tswIn C 1 120 (17 : Int32) c1 dX8_countFurther_1 (by decide) (by decide) rfl (by decide) ?_
    refine x_aload_n C 120 0 dX8_countFurther_120 rfl ?_
    refine x_aload_n C 121 0 dX8_countFurther_121 rfl ?_
    refine fgc_X8_42 C 122 dX8_countFurther_122 ?_
    refine Y_bnd1 (fun r125 h125 => ?_)
    refine x_callVi C 125 [] [.ref (zA (Zc V) 0)] rfl tw_829 mv_X1_primary (Nat.le_of_ble_eq_true rfl) (Nat.le_of_ble_eq_true rfl) (Nat.le_of_ble_eq_true rfl) (Nat.le_of_ble_eq_true rfl) (kc_28 V _) rfl dX8_countFurther_125 (c_X1_primary V _ _  h125) ?_
    refine Y_bnd2 (fun r128 s_128 h128 => ?_)
    refine x_callVi C 128 [.int r125] [] rfl tw_933 mv_X8_mergedOf (Nat.le_of_ble_eq_true rfl) (Nat.le_of_ble_eq_true rfl) (Nat.le_of_ble_eq_true rfl) (Nat.le_of_ble_eq_true rfl) (kc_0 V _) rfl dX8_countFurther_128 (c_X8_mergedOf V _ _ _ h128) ?_
    exact x_iret2 C R 131 dX8_countFurther_131
  refine Y_ite (fun c1 => ?_) (fun c1_18 => ?_)
  · refine x_tswIn C 1 132 (18 : Int32) c1 dX8_countFurther_1 (by decide) (by decide) rfl (by decide) ?_
    refine x_aload_n C 132 0 dX8_countFurther_132 rfl ?_
    refine x_aload_n C 133 0 dX8_countFurther_133 rfl ?_
    refine fgc_X8_42 C 134 dX8_countFurther_134 ?_
    refine Y_bnd1 (fun r137 h137 => ?_)
    refine x_callVi C 137 [] [.ref (zA (Zc V) 0)] rfl tw_829 mv_X1_primary (Nat.le_of_ble_eq_true rfl) (Nat.le_of_ble_eq_true rfl) (Nat.le_of_ble_eq_true rfl) (Nat.le_of_ble_eq_true rfl) (kc_28 V _) rfl dX8_countFurther_137 (c_X1_primary V _ _  h137) ?_
    refine Y_bnd2 (fun r140 s_140 h140 => ?_)
    refine x_callVi C 140 [.int r137] [] rfl tw_941 mv_X8_idleOrStuckOf (Nat.le_of_ble_eq_true rfl) (Nat.le_of_ble_eq_true rfl) (Nat.le_of_ble_eq_true rfl) (Nat.le_of_ble_eq_true rfl) (kc_0 V _) rfl dX8_countFurther_140 (c_X8_idleOrStuckOf V _ _ _ h140) ?_
    exact x_iret2 C R 143 dX8_countFurther_143
  · refine x_tswOut C 1 144 [(10 : Int32), (11 : Int32), (12 : Int32), (13 : Int32), (14 : Int32), (15 : Int32), (16 : Int32), (17 : Int32), (18 : Int32)] dX8_countFurther_1 (by decide) (List.forall_mem_cons.mpr ⟨c1_10, (List.forall_mem_cons.mpr ⟨c1_11, (List.forall_mem_cons.mpr ⟨c1_12, (List.forall_mem_cons.mpr ⟨c1_13, (List.forall_mem_cons.mpr ⟨c1_14, (List.forall_mem_cons.mpr ⟨c1_15, (List.forall_mem_cons.mpr ⟨c1_16, (List.forall_mem_cons.mpr ⟨c1_17, (List.forall_mem_cons.mpr ⟨c1_18, (List.forall_mem_nil _)⟩)⟩)⟩)⟩)⟩)⟩)⟩)⟩)⟩) (by decide) ?_
    refine x_iconst C 144 dX8_countFurther_144 ki_m1 ?_
    exact x_iret2 C R 145 dX8_countFurther_145
def M_X8_count (σ : Wd) (v1 : Int32) : Option (Int32 × Wd) :=
  if v1 = (0 : Int32) then (chk (famT (gR σ 0 4)) (some ((gI σ (gR σ 0 4) 0), σ))) else (if v1 = (1 : Int32) then (chk (famT (gR σ 0 4)) (some ((gI σ (gR σ 0 4) 3), σ))) else (if v1 = (2 : Int32) then (chk (famT (gR σ 0 4)) (some ((gI σ (gR σ 0 4) 4), σ))) else (if v1 = (3 : Int32) then (bnd1 (M_X1_writes σ) fun r84 => some (r84, σ)) else (if v1 = (4 : Int32) then (bnd1 (M_X1_ordered σ) fun r92 => some (r92, σ)) else (if v1 = (5 : Int32) then (bnd1 (M_X1_primary σ) fun r100 => some (r100, σ)) else (if v1 = (6 : Int32) then (bnd1 (M_X1_chances σ) fun r108 => some (r108, σ)) else (if v1 = (7 : Int32) then (bnd1 (M_X1_sumOfCopies σ (16 : Int32)) fun r118 => some (r118, σ)) else (if v1 = (8 : Int32) then (some ((gI σ 0 1), σ)) else (if v1 = (9 : Int32) then (some ((gI σ 66 2), σ)) else (bnd2 (M_X8_countFurther σ v1) fun r137 s_137 => some (r137, s_137)))))))))))
set_option maxRecDepth 100000 in
set_option maxHeartbeats 4000000 in
theorem c_X8_count (V : Ct_V) (l : Launch) (σ : Wd) (v1 : Int32) {r : Int32} {σ2 : Wd} (h : M_X8_count σ v1 = some (r, σ2)) : Ct l (Zc V) yX8_count cX8_count 2 (some .int) 6 150 [.ref (zA (Zc V) 0), .int v1] σ (some (.int r)) σ2 := by
  refine Ct_intro (own := RX8) zc_ok (by decide +kernel) rfl (Nat.le_of_ble_eq_true rfl) [(0, .ref (zA (Zc V) 0)), (1, .int v1)] rfl (fun K C R hKl hnL => ?_)
  have hN := nl_of hnL
  subst hKl
  refine Y_end h ?_
  unfold M_X8_count
  refine x_iload_n C 0 1 dX8_count_0 rfl ?_
  refine Y_ite (fun c1 => ?_) (fun c1_0 => ?_)
  · refine x_tswIn C 1 56 (0 : Int32) c1 dX8_count_1 (by decide) (by decide) rfl (by decide) ?_
    refine x_aload_n C 56 0 dX8_count_56 rfl ?_
    refine fgc_X8_23 C 57 dX8_count_57 ?_
    refine Y_chk (fun hf57 => ?_)
    refine fgf_X8_78 (hf57) C 60 dX8_count_60 ?_
    exact x_iret2 C R 63 dX8_count_63
  refine Y_ite (fun c1 => ?_) (fun c1_1 => ?_)
  · refine x_tswIn C 1 64 (1 : Int32) c1 dX8_count_1 (by decide) (by decide) rfl (by decide) ?_
    refine x_aload_n C 64 0 dX8_count_64 rfl ?_
    refine fgc_X8_23 C 65 dX8_count_65 ?_
    refine Y_chk (fun hf65 => ?_)
    refine fgf_X8_285 (hf65) C 68 dX8_count_68 ?_
    exact x_iret2 C R 71 dX8_count_71
  refine Y_ite (fun c1 => ?_) (fun c1_2 => ?_)
  · refine x_tswIn C 1 72 (2 : Int32) c1 dX8_count_1 (by decide) (by decide) rfl (by decide) ?_
    refine x_aload_n C 72 0 dX8_count_72 rfl ?_
    refine fgc_X8_23 C 73 dX8_count_73 ?_
    refine Y_chk (fun hf73 => ?_)
    refine fgf_X8_110 (hf73) C 76 dX8_count_76 ?_
    exact x_iret2 C R 79 dX8_count_79
  refine Y_ite (fun c1 => ?_) (fun c1_3 => ?_)
  · refine x_tswIn C 1 80 (3 : Int32) c1 dX8_count_1 (by decide) (by decide) rfl (by decide) ?_
    refine x_aload_n C 80 0 dX8_count_80 rfl ?_
    refine fgc_X8_42 C 81 dX8_count_81 ?_
    refine Y_bnd1 (fun r84 h84 => ?_)
    refine x_callVi C 84 [] [] rfl tw_689 mv_X1_writes (Nat.le_of_ble_eq_true rfl) (Nat.le_of_ble_eq_true rfl) (Nat.le_of_ble_eq_true rfl) (Nat.le_of_ble_eq_true rfl) (kc_28 V _) rfl dX8_count_84 (c_X1_writes V _ _  h84) ?_
    exact x_iret2 C R 87 dX8_count_87
  refine Y_ite (fun c1 => ?_) (fun c1_4 => ?_)
  · refine x_tswIn C 1 88 (4 : Int32) c1 dX8_count_1 (by decide) (by decide) rfl (by decide) ?_
    refine x_aload_n C 88 0 dX8_count_88 rfl ?_
    refine fgc_X8_42 C 89 dX8_count_89 ?_
    refine Y_bnd1 (fun r92 h92 => ?_)
    refine x_callVi C 92 [] [] rfl tw_831 mv_X1_ordered (Nat.le_of_ble_eq_true rfl) (Nat.le_of_ble_eq_true rfl) (Nat.le_of_ble_eq_true rfl) (Nat.le_of_ble_eq_true rfl) (kc_28 V _) rfl dX8_count_92 (c_X1_ordered V _ _  h92) ?_
    exact x_iret2 C R 95 dX8_count_95
  refine Y_ite (fun c1 => ?_) (fun c1_5 => ?_)
  · refine x_tswIn C 1 96 (5 : Int32) c1 dX8_count_1 (by decide) (by decide) rfl (by decide) ?_
    refine x_aload_n C 96 0 dX8_count_96 rfl ?_
    refine fgc_X8_42 C 97 dX8_count_97 ?_
    refine Y_bnd1 (fun r100 h100 => ?_)
    refine x_callVi C 100 [] [] rfl tw_829 mv_X1_primary (Nat.le_of_ble_eq_true rfl) (Nat.le_of_ble_eq_true rfl) (Nat.le_of_ble_eq_true rfl) (Nat.le_of_ble_eq_true rfl) (kc_28 V _) rfl dX8_count_100 (c_X1_primary V _ _  h100) ?_
    exact x_iret2 C R 103 dX8_count_103
  refine Y_ite (fun c1 => ?_) (fun c1_6 => ?_)
  · refine x_tswIn C 1 104 (6 : Int32) c1 dX8_count_1 (by decide) (by decide) rfl (by decide) ?_
    refine x_aload_n C 104 0 dX8_count_104 rfl ?_
    refine fgc_X8_42 C 105 dX8_count_105 ?_
    refine Y_bnd1 (fun r108 h108 => ?_)
    refine x_callVi C 108 [] [] rfl tw_840 mv_X1_chances (Nat.le_of_ble_eq_true rfl) (Nat.le_of_ble_eq_true rfl) (Nat.le_of_ble_eq_true rfl) (Nat.le_of_ble_eq_true rfl) (kc_28 V _) rfl dX8_count_108 (c_X1_chances V _ _  h108) ?_
    exact x_iret2 C R 111 dX8_count_111
  refine Y_ite (fun c1 => ?_) (fun c1_7 => ?_)
  · refine x_tswIn C 1 112 (7 : Int32) c1 dX8_count_1 (by decide) (by decide) rfl (by decide) ?_
    refine x_aload_n C 112 0 dX8_count_112 rfl ?_
    refine fgc_X8_42 C 113 dX8_count_113 ?_
    refine x_bipush C 116 dX8_count_116 kb_16 ?_
    refine Y_bnd1 (fun r118 h118 => ?_)
    refine x_callVi C 118 [.int (16 : Int32)] [] rfl tw_1121 mv_X1_sumOfCopies (Nat.le_of_ble_eq_true rfl) (Nat.le_of_ble_eq_true rfl) (Nat.le_of_ble_eq_true rfl) (Nat.le_of_ble_eq_true rfl) (kc_28 V _) rfl dX8_count_118 (c_X1_sumOfCopies V _ _ _ h118) ?_
    exact x_iret2 C R 121 dX8_count_121
  refine Y_ite (fun c1 => ?_) (fun c1_8 => ?_)
  · refine x_tswIn C 1 122 (8 : Int32) c1 dX8_count_1 (by decide) (by decide) rfl (by decide) ?_
    refine x_aload_n C 122 0 dX8_count_122 rfl ?_
    refine fgc_X8_13 C 123 dX8_count_123 ?_
    exact x_iret2 C R 126 dX8_count_126
  refine Y_ite (fun c1 => ?_) (fun c1_9 => ?_)
  · refine x_tswIn C 1 127 (9 : Int32) c1 dX8_count_1 (by decide) (by decide) rfl (by decide) ?_
    refine x_aload_n C 127 0 dX8_count_127 rfl ?_
    refine fgc_X8_49 C 128 dX8_count_128 ?_
    refine fgc_X8_339 C 131 dX8_count_131 ?_
    exact x_iret2 C R 134 dX8_count_134
  · refine x_tswOut C 1 135 [(0 : Int32), (1 : Int32), (2 : Int32), (3 : Int32), (4 : Int32), (5 : Int32), (6 : Int32), (7 : Int32), (8 : Int32), (9 : Int32)] dX8_count_1 (by decide) (List.forall_mem_cons.mpr ⟨c1_0, (List.forall_mem_cons.mpr ⟨c1_1, (List.forall_mem_cons.mpr ⟨c1_2, (List.forall_mem_cons.mpr ⟨c1_3, (List.forall_mem_cons.mpr ⟨c1_4, (List.forall_mem_cons.mpr ⟨c1_5, (List.forall_mem_cons.mpr ⟨c1_6, (List.forall_mem_cons.mpr ⟨c1_7, (List.forall_mem_cons.mpr ⟨c1_8, (List.forall_mem_cons.mpr ⟨c1_9, (List.forall_mem_nil _)⟩)⟩)⟩)⟩)⟩)⟩)⟩)⟩)⟩)⟩) (by decide) ?_
    refine x_aload_n C 135 0 dX8_count_135 rfl ?_
    refine x_iload_n C 136 1 dX8_count_136 rfl ?_
    refine Y_bnd2 (fun r137 s_137 h137 => ?_)
    refine x_callVi C 137 [.int v1] [] rfl tw_1126 mv_X8_countFurther (Nat.le_of_ble_eq_true rfl) (Nat.le_of_ble_eq_true rfl) (Nat.le_of_ble_eq_true rfl) (Nat.le_of_ble_eq_true rfl) (kc_0 V _) rfl dX8_count_137 (c_X8_countFurther V _ _ _ h137) ?_
    exact x_iret2 C R 140 dX8_count_140
def M_L_put (σ : Wd) (v1 : Int32) (v2 : Int32) (v3 : Int32) (v4 : Int32) (v5 : Int32) (v6 : Int32) : Option Wd :=
  bnd2 (M_X8_feed σ v2 v3 v4 v5 v6) fun r9 s_9 => bnd2 (M_X8_back s_9 ((20 : Int32) - v1)) fun r18 s_18 => some s_18
set_option maxRecDepth 100000 in
set_option maxHeartbeats 4000000 in
theorem c_L_put (V : Ct_V) (l : Launch) (σ : Wd) (v1 : Int32) (v2 : Int32) (v3 : Int32) (v4 : Int32) (v5 : Int32) (v6 : Int32) {σ2 : Wd} (h : M_L_put σ v1 v2 v3 v4 v5 v6 = some σ2) : Ct l (Zc V) yL_put cL_put 7 none 2 47 [.ref (zA (Zc V) 0), .int v1, .int v2, .int v3, .int v4, .int v5, .int v6] σ none σ2 := by
  refine Ct_intro (own := RL) zc_ok (by decide +kernel) rfl (Nat.le_of_ble_eq_true rfl) [(0, .ref (zA (Zc V) 0)), (1, .int v1), (2, .int v2), (3, .int v3), (4, .int v4), (5, .int v5), (6, .int v6)] rfl (fun K C R hKl hnL => ?_)
  have hN := nl_of hnL
  subst hKl
  refine Y_end h ?_
  unfold M_L_put
  refine x_aload_n C 0 0 dL_put_0 rfl ?_
  refine x_iload_n C 1 2 dL_put_1 rfl ?_
  refine x_iload_n C 2 3 dL_put_2 rfl ?_
  refine x_iload C 3 4 dL_put_3 rfl ?_
  refine x_iload C 5 5 dL_put_5 rfl ?_
  refine x_iload C 7 6 dL_put_7 rfl ?_
  refine Y_bnd2 (fun r9 s_9 h9 => ?_)
  refine x_callVi C 9 [.int v2, .int v3, .int v4, .int v5, .int v6] [] rfl tw_1263 mv_X8_feed (Nat.le_of_ble_eq_true rfl) (Nat.le_of_ble_eq_true rfl) (Nat.le_of_ble_eq_true rfl) (Nat.le_of_ble_eq_true rfl) (kc_0 V _) rfl dL_put_9 (c_X8_feed V _ _ _ _ _ _ _ h9) ?_
  refine x_pop C 12 dL_put_12 rfl ?_
  refine x_aload_n C 13 0 dL_put_13 rfl ?_
  refine x_bipush C 14 dL_put_14 kb_20 ?_
  refine x_iload_n C 16 1 dL_put_16 rfl ?_
  refine x_isub C 17 dL_put_17 ?_
  refine Y_bnd2 (fun r18 s_18 h18 => ?_)
  refine x_callVi C 18 [.int ((20 : Int32) - v1)] [] rfl tw_1271 mv_X8_back (Nat.le_of_ble_eq_true rfl) (Nat.le_of_ble_eq_true rfl) (Nat.le_of_ble_eq_true rfl) (Nat.le_of_ble_eq_true rfl) (kc_0 V _) rfl dL_put_18 (c_X8_back V _ _ _ h18) ?_
  refine x_pop C 21 dL_put_21 rfl ?_
  exact x_vret C R 22 dL_put_22
def M_L_sign (σ : Wd) (v1 : Int32) : Option Wd :=
  bnd2 (M_X8_feed σ (v1 <<< ((24 : Int32) &&& 31)) (0 : Int32) (0 : Int32) (0 : Int32) (0 : Int32)) fun r9 s_9 => bnd2 (M_X8_back s_9 (19 : Int32)) fun r16 s_16 => some s_16
set_option maxRecDepth 100000 in
set_option maxHeartbeats 4000000 in
theorem c_L_sign (V : Ct_V) (l : Launch) (σ : Wd) (v1 : Int32) {σ2 : Wd} (h : M_L_sign σ v1 = some σ2) : Ct l (Zc V) yL_sign cL_sign 2 none 2 47 [.ref (zA (Zc V) 0), .int v1] σ none σ2 := by
  refine Ct_intro (own := RL) zc_ok (by decide +kernel) rfl (Nat.le_of_ble_eq_true rfl) [(0, .ref (zA (Zc V) 0)), (1, .int v1)] rfl (fun K C R hKl hnL => ?_)
  have hN := nl_of hnL
  subst hKl
  refine Y_end h ?_
  unfold M_L_sign
  refine x_aload_n C 0 0 dL_sign_0 rfl ?_
  refine x_iload_n C 1 1 dL_sign_1 rfl ?_
  refine x_bipush C 2 dL_sign_2 kb_24 ?_
  refine x_ishl C 4 dL_sign_4 ?_
  refine x_iconst C 5 dL_sign_5 ki_0 ?_
  refine x_iconst C 6 dL_sign_6 ki_0 ?_
  refine x_iconst C 7 dL_sign_7 ki_0 ?_
  refine x_iconst C 8 dL_sign_8 ki_0 ?_
  refine Y_bnd2 (fun r9 s_9 h9 => ?_)
  refine x_callVi C 9 [.int (v1 <<< ((24 : Int32) &&& 31)), .int (0 : Int32), .int (0 : Int32), .int (0 : Int32), .int (0 : Int32)] [] rfl tw_1263 mv_X8_feed (Nat.le_of_ble_eq_true rfl) (Nat.le_of_ble_eq_true rfl) (Nat.le_of_ble_eq_true rfl) (Nat.le_of_ble_eq_true rfl) (kc_0 V _) rfl dL_sign_9 (c_X8_feed V _ _ _ _ _ _ _ h9) ?_
  refine x_pop C 12 dL_sign_12 rfl ?_
  refine x_aload_n C 13 0 dL_sign_13 rfl ?_
  refine x_bipush C 14 dL_sign_14 kb_19 ?_
  refine Y_bnd2 (fun r16 s_16 h16 => ?_)
  refine x_callVi C 16 [.int (19 : Int32)] [] rfl tw_1271 mv_X8_back (Nat.le_of_ble_eq_true rfl) (Nat.le_of_ble_eq_true rfl) (Nat.le_of_ble_eq_true rfl) (Nat.le_of_ble_eq_true rfl) (kc_0 V _) rfl dL_sign_16 (c_X8_back V _ _ _ h16) ?_
  refine x_pop C 19 dL_sign_19 rfl ?_
  exact x_vret C R 20 dL_sign_20
def M_L_number_L2 (σ : Wd) (v1 : Int32) (v2 : Int32) : Option ((Int32) ⊕ (Int32)) :=
  chk (¬ (10 : Int32) = 0) (if (v1 / (10 : Int32)) < v2 then (some (.inr v2)) else (lt (v2 * (10 : Int32)) fun v2_14 => some (.inl v2_14)))
def M_L_number_L18 (v1 : Int32) (v2 : Int32) (σ : Wd) : Option ((Int32 × Wd) ⊕ (Wd)) :=
  if v2 ≤ 0 then (some (.inr σ)) else (chk (¬ v2 = 0) (chk (¬ (10 : Int32) = 0) (bnd1 (M_L_sign σ ((48 : Int32) + ((v1 / v2) - (v1 / v2) / (10 : Int32) * (10 : Int32)))) fun s_32 => chk (¬ (10 : Int32) = 0) (lt (v2 / (10 : Int32)) fun v2_39 => some (.inl (v2_39, s_32))))))
def M_L_number (σ : Wd) (v1 : Int32) : Option Wd :=
  bnd1 (iter (fun s : Int32 => M_L_number_L2 σ v1 s) FU (1 : Int32)) (un1 fun x2_2 => (bnd1 (iter (fun s : Int32 × Wd => M_L_number_L18 v1 s.1 s.2) FU (x2_2, σ)) (un1 fun sx_18 => (some sx_18))))
set_option maxRecDepth 100000 in
set_option maxHeartbeats 4000000 in
theorem c_L_number (V : Ct_V) (l : Launch) (σ : Wd) (v1 : Int32) {σ2 : Wd} (h : M_L_number σ v1 = some σ2) : Ct l (Zc V) yL_number cL_number 3 none 3 68 [.ref (zA (Zc V) 0), .int v1] σ none σ2 := by
  refine Ct_intro (own := RL) zc_ok (by decide +kernel) rfl (Nat.le_of_ble_eq_true rfl) [(0, .ref (zA (Zc V) 0)), (1, .int v1)] rfl (fun K C R hKl hnL => ?_)
  have hN := nl_of hnL
  subst hKl
  refine Y_end h ?_
  unfold M_L_number
  refine x_iconst C 0 dL_number_0 ki_1 ?_
  refine x_istore_n C 1 (L' := [(2, .int (1 : Int32)), (0, .ref (zA (Zc V) 0)), (1, .int v1)]) dL_number_1 rfl (hN _ (Nat.le_of_ble_eq_true rfl)) rfl ?_
  refine Y_sub [1, 2, 0] rfl ?_
  refine x_loop 2 (fun s : Int32 => σ) (fun s : Int32 => [(0, .ref (zA (Zc V) 0)), (1, .int v1), (2, .int s)]) (fun E2 hb2 hx2 s => ?_) FU (1 : Int32)
  obtain ⟨v2_2, rfl⟩ : ∃ z, z = s := ⟨s, rfl⟩
  show Y K (Zc V) (M_L_number_L2 σ v1 v2_2) E2 σ 2 [(0, .ref (zA (Zc V) 0)), (1, .int v1), (2, .int v2_2)] []
  unfold M_L_number_L2
  refine x_iload_n C 2 2 dL_number_2 rfl ?_
  refine x_iload_n C 3 1 dL_number_3 rfl ?_
  refine x_bipush C 4 dL_number_4 kb_10 ?_
  refine Y_chk (fun q6 => ?_)
  refine x_idiv C 6 dL_number_6 q6 ?_
  refine x_icmp_gt C 7 18 dL_number_7 (by decide) (fun _ => ?_) (fun _ => ?_)
  · refine x_ex1 hx2 v2_2 ?_
    refine x_loop 18 (fun s : Int32 × Wd => s.2) (fun s : Int32 × Wd => [(0, .ref (zA (Zc V) 0)), (1, .int v1), (2, .int s.1)]) (fun E18 hb18 hx18 s => ?_) FU (v2_2, σ)
    obtain ⟨v2_18, s_18⟩ := s
    show Y K (Zc V) (M_L_number_L18 v1 v2_18 s_18) E18 s_18 18 [(0, .ref (zA (Zc V) 0)), (1, .int v1), (2, .int v2_18)] []
    unfold M_L_number_L18
    refine x_iload_n C 18 2 dL_number_18 rfl ?_
    refine x_if_le C 19 43 dL_number_19 (by decide) (fun _ => ?_) (fun _ => ?_)
    · refine x_ex1 hx18 s_18 ?_
      exact x_vret C R 43 dL_number_43
    · refine x_aload_n C 22 0 dL_number_22 rfl ?_
      refine x_bipush C 23 dL_number_23 kb_48 ?_
      refine x_iload_n C 25 1 dL_number_25 rfl ?_
      refine x_iload_n C 26 2 dL_number_26 rfl ?_
      refine Y_chk (fun q27 => ?_)
      refine x_idiv C 27 dL_number_27 q27 ?_
      refine x_bipush C 28 dL_number_28 kb_10 ?_
      refine Y_chk (fun q30 => ?_)
      refine x_irem C 30 dL_number_30 q30 ?_
      refine x_iadd C 31 dL_number_31 ?_
      refine Y_bnd1 (fun s_32 h32 => ?_)
      refine x_callSv C 32 [.ref (zA (Zc V) 0), .int ((48 : Int32) + ((v1 / v2_18) - (v1 / v2_18) / (10 : Int32) * (10 : Int32)))] [] rfl tw_1278 ms_L_sign (Nat.le_of_ble_eq_true rfl) (Nat.le_of_ble_eq_true rfl) (Nat.le_of_ble_eq_true rfl) dL_number_32 (c_L_sign V _ _ _ h32) ?_
      refine x_iload_n C 35 2 dL_number_35 rfl ?_
      refine x_bipush C 36 dL_number_36 kb_10 ?_
      refine Y_chk (fun q38 => ?_)
      refine x_idiv C 38 dL_number_38 q38 ?_
      refine x_istore_nt C 39 (fun v2_39 => [(2, .int v2_39), (0, .ref (zA (Zc V) 0)), (1, .int v1)]) dL_number_39 rfl (hN _ (Nat.le_of_ble_eq_true rfl)) (fun _ => rfl) (fun v2_39 => ?_)
      refine x_goto C 40 18 dL_number_40 (by decide) ?_
      refine Y_sub [1, 2, 0] rfl ?_
      exact x_back (v2_39, s_32) (hb18 (v2_39, s_32))
  · refine x_iload_n C 10 2 dL_number_10 rfl ?_
    refine x_bipush C 11 dL_number_11 kb_10 ?_
    refine x_imul C 13 dL_number_13 ?_
    refine x_istore_nt C 14 (fun v2_14 => [(2, .int v2_14), (0, .ref (zA (Zc V) 0)), (1, .int v1)]) dL_number_14 rfl (hN _ (Nat.le_of_ble_eq_true rfl)) (fun _ => rfl) (fun v2_14 => ?_)
    refine x_goto C 15 2 dL_number_15 (by decide) ?_
    refine Y_sub [1, 2, 0] rfl ?_
    exact x_back v2_14 (hb2 v2_14)
def M_L_cell (σ : Wd) (v1 : Int32) : Option Wd :=
  bnd1 (M_L_sign σ (32 : Int32)) fun s_3 => bnd1 (M_L_sign s_3 (99 : Int32)) fun s_9 => bnd1 (M_L_sign s_9 ((97 : Int32) + v1)) fun s_17 => bnd1 (M_L_sign s_17 (32 : Int32)) fun s_23 => some s_23
set_option maxRecDepth 100000 in
set_option maxHeartbeats 4000000 in
theorem c_L_cell (V : Ct_V) (l : Launch) (σ : Wd) (v1 : Int32) {σ2 : Wd} (h : M_L_cell σ v1 = some σ2) : Ct l (Zc V) yL_cell cL_cell 2 none 3 68 [.ref (zA (Zc V) 0), .int v1] σ none σ2 := by
  refine Ct_intro (own := RL) zc_ok (by decide +kernel) rfl (Nat.le_of_ble_eq_true rfl) [(0, .ref (zA (Zc V) 0)), (1, .int v1)] rfl (fun K C R hKl hnL => ?_)
  have hN := nl_of hnL
  subst hKl
  refine Y_end h ?_
  unfold M_L_cell
  refine x_aload_n C 0 0 dL_cell_0 rfl ?_
  refine x_bipush C 1 dL_cell_1 kb_32 ?_
  refine Y_bnd1 (fun s_3 h3 => ?_)
  refine x_callSv C 3 [.ref (zA (Zc V) 0), .int (32 : Int32)] [] rfl tw_1278 ms_L_sign (Nat.le_of_ble_eq_true rfl) (Nat.le_of_ble_eq_true rfl) (Nat.le_of_ble_eq_true rfl) dL_cell_3 (c_L_sign V _ _ _ h3) ?_
  refine x_aload_n C 6 0 dL_cell_6 rfl ?_
  refine x_bipush C 7 dL_cell_7 kb_99 ?_
  refine Y_bnd1 (fun s_9 h9 => ?_)
  refine x_callSv C 9 [.ref (zA (Zc V) 0), .int (99 : Int32)] [] rfl tw_1278 ms_L_sign (Nat.le_of_ble_eq_true rfl) (Nat.le_of_ble_eq_true rfl) (Nat.le_of_ble_eq_true rfl) dL_cell_9 (c_L_sign V _ _ _ h9) ?_
  refine x_aload_n C 12 0 dL_cell_12 rfl ?_
  refine x_bipush C 13 dL_cell_13 kb_97 ?_
  refine x_iload_n C 15 1 dL_cell_15 rfl ?_
  refine x_iadd C 16 dL_cell_16 ?_
  refine Y_bnd1 (fun s_17 h17 => ?_)
  refine x_callSv C 17 [.ref (zA (Zc V) 0), .int ((97 : Int32) + v1)] [] rfl tw_1278 ms_L_sign (Nat.le_of_ble_eq_true rfl) (Nat.le_of_ble_eq_true rfl) (Nat.le_of_ble_eq_true rfl) dL_cell_17 (c_L_sign V _ _ _ h17) ?_
  refine x_aload_n C 20 0 dL_cell_20 rfl ?_
  refine x_bipush C 21 dL_cell_21 kb_32 ?_
  refine Y_bnd1 (fun s_23 h23 => ?_)
  refine x_callSv C 23 [.ref (zA (Zc V) 0), .int (32 : Int32)] [] rfl tw_1278 ms_L_sign (Nat.le_of_ble_eq_true rfl) (Nat.le_of_ble_eq_true rfl) (Nat.le_of_ble_eq_true rfl) dL_cell_23 (c_L_sign V _ _ _ h23) ?_
  exact x_vret C R 26 dL_cell_26
