/-! the class's methods: programs and contracts -/
def M_X1_hadByAll_L8 (σ : Wd) (v1 : Int64) (v3 : Int32) : Option ((Int64 × Int32) ⊕ (Int64)) :=
  bnd1 (M_X1_copies σ) fun r10 => if r10 ≤ v3 then (some (.inr v1)) else (bnd1 (M_X1_setOf σ v3) fun r19 => lt (v1 &&& r19) fun v1_23 => lt (v3 + (1 : Int32)) fun v3_24 => some (.inl (v1_23, v3_24)))
def M_X1_hadByAll (σ : Wd) : Option Int64 :=
  bnd1 (M_X1_setOf σ (0 : Int32)) fun r2 => bnd1 (iter (fun s : Int64 × Int32 => M_X1_hadByAll_L8 σ s.1 s.2) FU (r2, (1 : Int32))) (un1 fun x1_8 => (some x1_8))
set_option maxRecDepth 100000 in
set_option maxHeartbeats 4000000 in
theorem c_X1_hadByAll (V : Ct_V) (l : Launch) (σ : Wd) {r : Int64} (h : M_X1_hadByAll σ = some r) : Ct l (Zc V) yX1_hadByAll cX1_hadByAll 4 (some .long) 1 21 [.ref (zA (Zc V) 28)] σ (some (.long r)) σ := by
  refine Ct_intro (own := RX1) zc_ok (by decide +kernel) rfl (Nat.le_of_ble_eq_true rfl) [(0, .ref (zA (Zc V) 28))] rfl (fun K C R hKl hnL => ?_)
  have hN := nl_of hnL
  subst hKl
  refine Y_end h ?_
  unfold M_X1_hadByAll
  refine x_aload_n C 0 0 dX1_hadByAll_0 rfl ?_
  refine x_iconst C 1 dX1_hadByAll_1 ki_0 ?_
  refine Y_bnd1 (fun r2 h2 => ?_)
  refine x_callVl C 2 [.int (0 : Int32)] [] rfl tw_677 mv_X1_setOf (Nat.le_of_ble_eq_true rfl) (Nat.le_of_ble_eq_true rfl) (Nat.le_of_ble_eq_true rfl) (Nat.le_of_ble_eq_true rfl) (kc_28 V _) rfl dX1_hadByAll_2 (c_X1_setOf V _ _ _ h2) ?_
  refine x_lstore_n C 5 (L' := [(1, .long r2), (0, .ref (zA (Zc V) 28))]) dX1_hadByAll_5 rfl (hN _ (Nat.le_of_ble_eq_true rfl)) rfl ?_
  refine x_iconst C 6 dX1_hadByAll_6 ki_1 ?_
  refine x_istore_n C 7 (L' := [(3, .int (1 : Int32)), (1, .long r2), (0, .ref (zA (Zc V) 28))]) dX1_hadByAll_7 rfl (hN _ (Nat.le_of_ble_eq_true rfl)) rfl ?_
  refine Y_sub [2, 1, 0] rfl ?_
  refine x_loop 8 (fun s : Int64 × Int32 => σ) (fun s : Int64 × Int32 => [(0, .ref (zA (Zc V) 28)), (1, .long s.1), (3, .int s.2)]) (fun E8 hb8 hx8 s => ?_) FU (r2, (1 : Int32))
  obtain ⟨v1_8, v3_8⟩ := s
  show Y K (Zc V) (M_X1_hadByAll_L8 σ v1_8 v3_8) E8 σ 8 [(0, .ref (zA (Zc V) 28)), (1, .long v1_8), (3, .int v3_8)] []
  unfold M_X1_hadByAll_L8
  refine x_iload_n C 8 2 dX1_hadByAll_8 rfl ?_
  refine x_aload_n C 9 0 dX1_hadByAll_9 rfl ?_
  refine Y_bnd1 (fun r10 h10 => ?_)
  refine x_callVi C 10 [] [.int v3_8] rfl tw_661 mv_X1_copies (Nat.le_of_ble_eq_true rfl) (Nat.le_of_ble_eq_true rfl) (Nat.le_of_ble_eq_true rfl) (Nat.le_of_ble_eq_true rfl) (kc_28 V _) rfl dX1_hadByAll_10 (c_X1_copies V _ _  h10) ?_
  refine x_icmp_ge C 13 30 dX1_hadByAll_13 (by decide) (fun _ => ?_) (fun _ => ?_)
  · refine x_ex1 hx8 v1_8 ?_
    refine x_lload_n C 30 1 dX1_hadByAll_30 rfl ?_
    exact x_lret1 C R 31 dX1_hadByAll_31
  · refine x_lload_n C 16 1 dX1_hadByAll_16 rfl ?_
    refine x_aload_n C 17 0 dX1_hadByAll_17 rfl ?_
    refine x_iload_n C 18 2 dX1_hadByAll_18 rfl ?_
    refine Y_bnd1 (fun r19 h19 => ?_)
    refine x_callVl C 19 [.int v3_8] [.long v1_8] rfl tw_677 mv_X1_setOf (Nat.le_of_ble_eq_true rfl) (Nat.le_of_ble_eq_true rfl) (Nat.le_of_ble_eq_true rfl) (Nat.le_of_ble_eq_true rfl) (kc_28 V _) rfl dX1_hadByAll_19 (c_X1_setOf V _ _ _ h19) ?_
    refine x_land C 22 dX1_hadByAll_22 ?_
    refine x_lstore_nt C 23 (fun v1_23 => [(1, .long v1_23), (0, .ref (zA (Zc V) 28)), (3, .int v3_8)]) dX1_hadByAll_23 rfl (hN _ (Nat.le_of_ble_eq_true rfl)) (fun _ => rfl) (fun v1_23 => ?_)
    refine x_iinct C 24 2 (1 : Int32) (fun v3_24 => [(3, .int v3_24), (1, .long v1_23), (0, .ref (zA (Zc V) 28))]) dX1_hadByAll_24 rfl ki_1 (hN _ (Nat.le_of_ble_eq_true rfl)) (fun _ => rfl) (fun v3_24 => ?_)
    refine x_goto C 27 8 dX1_hadByAll_27 (by decide) ?_
    refine Y_sub [2, 1, 0] rfl ?_
    exact x_back (v1_23, v3_24) (hb8 (v1_23, v3_24))
def M_X1_knownToAll_L8 (σ : Wd) (v1 : Int32) (v2 : Int32) : Option ((Int32 × Int32) ⊕ (Int32)) :=
  bnd1 (M_X1_copies σ) fun r10 => if r10 ≤ v2 then (some (.inr v1)) else (bnd1 (M_X1_knownOf σ v2) fun r19 => lt (if r19 < v1 then r19 else v1) fun v1_25 => lt (v2 + (1 : Int32)) fun v2_26 => some (.inl (v1_25, v2_26)))
def M_X1_knownToAll (σ : Wd) : Option Int32 :=
  bnd1 (M_X1_knownOf σ (0 : Int32)) fun r2 => bnd1 (iter (fun s : Int32 × Int32 => M_X1_knownToAll_L8 σ s.1 s.2) FU (r2, (1 : Int32))) (un1 fun x1_8 => (some x1_8))
set_option maxRecDepth 100000 in
set_option maxHeartbeats 4000000 in
theorem c_X1_knownToAll (V : Ct_V) (l : Launch) (σ : Wd) {r : Int32} (h : M_X1_knownToAll σ = some r) : Ct l (Zc V) yX1_knownToAll cX1_knownToAll 3 (some .int) 1 30 [.ref (zA (Zc V) 28)] σ (some (.int r)) σ := by
  refine Ct_intro (own := RX1) zc_ok (by decide +kernel) rfl (Nat.le_of_ble_eq_true rfl) [(0, .ref (zA (Zc V) 28))] rfl (fun K C R hKl hnL => ?_)
  have hN := nl_of hnL
  subst hKl
  refine Y_end h ?_
  unfold M_X1_knownToAll
  refine x_aload_n C 0 0 dX1_knownToAll_0 rfl ?_
  refine x_iconst C 1 dX1_knownToAll_1 ki_0 ?_
  refine Y_bnd1 (fun r2 h2 => ?_)
  refine x_callVi C 2 [.int (0 : Int32)] [] rfl tw_703 mv_X1_knownOf (Nat.le_of_ble_eq_true rfl) (Nat.le_of_ble_eq_true rfl) (Nat.le_of_ble_eq_true rfl) (Nat.le_of_ble_eq_true rfl) (kc_28 V _) rfl dX1_knownToAll_2 (c_X1_knownOf V _ _ _ h2) ?_
  refine x_istore_n C 5 (L' := [(1, .int r2), (0, .ref (zA (Zc V) 28))]) dX1_knownToAll_5 rfl (hN _ (Nat.le_of_ble_eq_true rfl)) rfl ?_
  refine x_iconst C 6 dX1_knownToAll_6 ki_1 ?_
  refine x_istore_n C 7 (L' := [(2, .int (1 : Int32)), (1, .int r2), (0, .ref (zA (Zc V) 28))]) dX1_knownToAll_7 rfl (hN _ (Nat.le_of_ble_eq_true rfl)) rfl ?_
  refine Y_sub [2, 1, 0] rfl ?_
  refine x_loop 8 (fun s : Int32 × Int32 => σ) (fun s : Int32 × Int32 => [(0, .ref (zA (Zc V) 28)), (1, .int s.1), (2, .int s.2)]) (fun E8 hb8 hx8 s => ?_) FU (r2, (1 : Int32))
  obtain ⟨v1_8, v2_8⟩ := s
  show Y K (Zc V) (M_X1_knownToAll_L8 σ v1_8 v2_8) E8 σ 8 [(0, .ref (zA (Zc V) 28)), (1, .int v1_8), (2, .int v2_8)] []
  unfold M_X1_knownToAll_L8
  refine x_iload_n C 8 2 dX1_knownToAll_8 rfl ?_
  refine x_aload_n C 9 0 dX1_knownToAll_9 rfl ?_
  refine Y_bnd1 (fun r10 h10 => ?_)
  refine x_callVi C 10 [] [.int v2_8] rfl tw_661 mv_X1_copies (Nat.le_of_ble_eq_true rfl) (Nat.le_of_ble_eq_true rfl) (Nat.le_of_ble_eq_true rfl) (Nat.le_of_ble_eq_true rfl) (kc_28 V _) rfl dX1_knownToAll_10 (c_X1_copies V _ _  h10) ?_
  refine x_icmp_ge C 13 32 dX1_knownToAll_13 (by decide) (fun _ => ?_) (fun _ => ?_)
  · refine x_ex1 hx8 v1_8 ?_
    refine x_iload_n C 32 1 dX1_knownToAll_32 rfl ?_
    exact x_iret1 C R 33 dX1_knownToAll_33
  · refine x_iload_n C 16 1 dX1_knownToAll_16 rfl ?_
    refine x_aload_n C 17 0 dX1_knownToAll_17 rfl ?_
    refine x_iload_n C 18 2 dX1_knownToAll_18 rfl ?_
    refine Y_bnd1 (fun r19 h19 => ?_)
    refine x_callVi C 19 [.int v2_8] [.int v1_8] rfl tw_703 mv_X1_knownOf (Nat.le_of_ble_eq_true rfl) (Nat.le_of_ble_eq_true rfl) (Nat.le_of_ble_eq_true rfl) (Nat.le_of_ble_eq_true rfl) (kc_28 V _) rfl dX1_knownToAll_19 (c_X1_knownOf V _ _ _ h19) ?_
    refine x_mmin C 22 tw_1143 tw_414 tw_49 tw_415 (Nat.le_of_ble_eq_true rfl) (Nat.le_of_ble_eq_true rfl) dX1_knownToAll_22 ?_
    refine x_istore_nt C 25 (fun v1_25 => [(1, .int v1_25), (0, .ref (zA (Zc V) 28)), (2, .int v2_8)]) dX1_knownToAll_25 rfl (hN _ (Nat.le_of_ble_eq_true rfl)) (fun _ => rfl) (fun v1_25 => ?_)
    refine x_iinct C 26 2 (1 : Int32) (fun v2_26 => [(2, .int v2_26), (1, .int v1_25), (0, .ref (zA (Zc V) 28))]) dX1_knownToAll_26 rfl ki_1 (hN _ (Nat.le_of_ble_eq_true rfl)) (fun _ => rfl) (fun v2_26 => ?_)
    refine x_goto C 29 8 dX1_knownToAll_29 (by decide) ?_
    refine Y_sub [2, 1, 0] rfl ?_
    exact x_back (v1_25, v2_26) (hb8 (v1_25, v2_26))
def M_X1_sumOfCopies_L4 (σ : Wd) (v1 : Int32) (v2 : Int32) (v3 : Int32) : Option ((Int32 × Int32) ⊕ (Int32)) :=
  bnd1 (M_X1_copies σ) fun r6 => if r6 ≤ v3 then (some (.inr v2)) else (bnd1 (M_X1_copyNumber σ v1 v3) fun r16 => lt (v2 + r16) fun v2_20 => lt (v3 + (1 : Int32)) fun v3_21 => some (.inl (v2_20, v3_21)))
def M_X1_sumOfCopies (σ : Wd) (v1 : Int32) : Option Int32 :=
  bnd1 (iter (fun s : Int32 × Int32 => M_X1_sumOfCopies_L4 σ v1 s.1 s.2) FU ((0 : Int32), (0 : Int32))) (un1 fun x2_4 => (some x2_4))
set_option maxRecDepth 100000 in
set_option maxHeartbeats 4000000 in
theorem c_X1_sumOfCopies (V : Ct_V) (l : Launch) (σ : Wd) (v1 : Int32) {r : Int32} (h : M_X1_sumOfCopies σ v1 = some r) : Ct l (Zc V) yX1_sumOfCopies cX1_sumOfCopies 4 (some .int) 1 22 [.ref (zA (Zc V) 28), .int v1] σ (some (.int r)) σ := by
  refine Ct_intro (own := RX1) zc_ok (by decide +kernel) rfl (Nat.le_of_ble_eq_true rfl) [(0, .ref (zA (Zc V) 28)), (1, .int v1)] rfl (fun K C R hKl hnL => ?_)
  have hN := nl_of hnL
  subst hKl
  refine Y_end h ?_
  unfold M_X1_sumOfCopies
  refine x_iconst C 0 dX1_sumOfCopies_0 ki_0 ?_
  refine x_istore_n C 1 (L' := [(2, .int (0 : Int32)), (0, .ref (zA (Zc V) 28)), (1, .int v1)]) dX1_sumOfCopies_1 rfl (hN _ (Nat.le_of_ble_eq_true rfl)) rfl ?_
  refine x_iconst C 2 dX1_sumOfCopies_2 ki_0 ?_
  refine x_istore_n C 3 (L' := [(3, .int (0 : Int32)), (2, .int (0 : Int32)), (0, .ref (zA (Zc V) 28)), (1, .int v1)]) dX1_sumOfCopies_3 rfl (hN _ (Nat.le_of_ble_eq_true rfl)) rfl ?_
  refine Y_sub [2, 3, 1, 0] rfl ?_
  refine x_loop 4 (fun s : Int32 × Int32 => σ) (fun s : Int32 × Int32 => [(0, .ref (zA (Zc V) 28)), (1, .int v1), (2, .int s.1), (3, .int s.2)]) (fun E4 hb4 hx4 s => ?_) FU ((0 : Int32), (0 : Int32))
  obtain ⟨v2_4, v3_4⟩ := s
  show Y K (Zc V) (M_X1_sumOfCopies_L4 σ v1 v2_4 v3_4) E4 σ 4 [(0, .ref (zA (Zc V) 28)), (1, .int v1), (2, .int v2_4), (3, .int v3_4)] []
  unfold M_X1_sumOfCopies_L4
  refine x_iload_n C 4 3 dX1_sumOfCopies_4 rfl ?_
  refine x_aload_n C 5 0 dX1_sumOfCopies_5 rfl ?_
  refine Y_bnd1 (fun r6 h6 => ?_)
  refine x_callVi C 6 [] [.int v3_4] rfl tw_661 mv_X1_copies (Nat.le_of_ble_eq_true rfl) (Nat.le_of_ble_eq_true rfl) (Nat.le_of_ble_eq_true rfl) (Nat.le_of_ble_eq_true rfl) (kc_28 V _) rfl dX1_sumOfCopies_6 (c_X1_copies V _ _  h6) ?_
  refine x_icmp_ge C 9 27 dX1_sumOfCopies_9 (by decide) (fun _ => ?_) (fun _ => ?_)
  · refine x_ex1 hx4 v2_4 ?_
    refine x_iload_n C 27 2 dX1_sumOfCopies_27 rfl ?_
    exact x_iret1 C R 28 dX1_sumOfCopies_28
  · refine x_iload_n C 12 2 dX1_sumOfCopies_12 rfl ?_
    refine x_aload_n C 13 0 dX1_sumOfCopies_13 rfl ?_
    refine x_iload_n C 14 1 dX1_sumOfCopies_14 rfl ?_
    refine x_iload_n C 15 3 dX1_sumOfCopies_15 rfl ?_
    refine Y_bnd1 (fun r16 h16 => ?_)
    refine x_callVi C 16 [.int v1, .int v3_4] [.int v2_4] rfl tw_1125 mv_X1_copyNumber (Nat.le_of_ble_eq_true rfl) (Nat.le_of_ble_eq_true rfl) (Nat.le_of_ble_eq_true rfl) (Nat.le_of_ble_eq_true rfl) (kc_28 V _) rfl dX1_sumOfCopies_16 (c_X1_copyNumber V _ _ _ _ h16) ?_
    refine x_iadd C 19 dX1_sumOfCopies_19 ?_
    refine x_istore_nt C 20 (fun v2_20 => [(2, .int v2_20), (0, .ref (zA (Zc V) 28)), (1, .int v1), (3, .int v3_4)]) dX1_sumOfCopies_20 rfl (hN _ (Nat.le_of_ble_eq_true rfl)) (fun _ => rfl) (fun v2_20 => ?_)
    refine x_iinct C 21 3 (1 : Int32) (fun v3_21 => [(3, .int v3_21), (2, .int v2_20), (0, .ref (zA (Zc V) 28)), (1, .int v1)]) dX1_sumOfCopies_21 rfl ki_1 (hN _ (Nat.le_of_ble_eq_true rfl)) (fun _ => rfl) (fun v3_21 => ?_)
    refine x_goto C 24 4 dX1_sumOfCopies_24 (by decide) ?_
    refine Y_sub [2, 3, 1, 0] rfl ?_
    exact x_back (v2_20, v3_21) (hb4 (v2_20, v3_21))
def M_X1_refusedInAll_L4 (σ : Wd) (v1 : Int32) (v2 : Int32) : Option ((Int32 × Int32) ⊕ (Int32)) :=
  if (4 : Int32) ≤ v2 then (some (.inr v1)) else (bnd1 (M_X1_sessionNumber σ (48 : Int32) v2) fun r14 => lt (v1 + r14) fun v1_18 => lt (v2 + (1 : Int32)) fun v2_19 => some (.inl (v1_18, v2_19)))
def M_X1_refusedInAll (σ : Wd) : Option Int32 :=
  bnd1 (iter (fun s : Int32 × Int32 => M_X1_refusedInAll_L4 σ s.1 s.2) FU ((0 : Int32), (0 : Int32))) (un1 fun x1_4 => (some x1_4))
set_option maxRecDepth 100000 in
set_option maxHeartbeats 4000000 in
theorem c_X1_refusedInAll (V : Ct_V) (l : Launch) (σ : Wd) {r : Int32} (h : M_X1_refusedInAll σ = some r) : Ct l (Zc V) yX1_refusedInAll cX1_refusedInAll 3 (some .int) 1 22 [.ref (zA (Zc V) 28)] σ (some (.int r)) σ := by
  refine Ct_intro (own := RX1) zc_ok (by decide +kernel) rfl (Nat.le_of_ble_eq_true rfl) [(0, .ref (zA (Zc V) 28))] rfl (fun K C R hKl hnL => ?_)
  have hN := nl_of hnL
  subst hKl
  refine Y_end h ?_
  unfold M_X1_refusedInAll
  refine x_iconst C 0 dX1_refusedInAll_0 ki_0 ?_
  refine x_istore_n C 1 (L' := [(1, .int (0 : Int32)), (0, .ref (zA (Zc V) 28))]) dX1_refusedInAll_1 rfl (hN _ (Nat.le_of_ble_eq_true rfl)) rfl ?_
  refine x_iconst C 2 dX1_refusedInAll_2 ki_0 ?_
  refine x_istore_n C 3 (L' := [(2, .int (0 : Int32)), (1, .int (0 : Int32)), (0, .ref (zA (Zc V) 28))]) dX1_refusedInAll_3 rfl (hN _ (Nat.le_of_ble_eq_true rfl)) rfl ?_
  refine Y_sub [2, 1, 0] rfl ?_
  refine x_loop 4 (fun s : Int32 × Int32 => σ) (fun s : Int32 × Int32 => [(0, .ref (zA (Zc V) 28)), (1, .int s.1), (2, .int s.2)]) (fun E4 hb4 hx4 s => ?_) FU ((0 : Int32), (0 : Int32))
  obtain ⟨v1_4, v2_4⟩ := s
  show Y K (Zc V) (M_X1_refusedInAll_L4 σ v1_4 v2_4) E4 σ 4 [(0, .ref (zA (Zc V) 28)), (1, .int v1_4), (2, .int v2_4)] []
  unfold M_X1_refusedInAll_L4
  refine x_iload_n C 4 2 dX1_refusedInAll_4 rfl ?_
  refine x_iconst C 5 dX1_refusedInAll_5 ki_4 ?_
  refine x_icmp_ge C 6 25 dX1_refusedInAll_6 (by decide) (fun _ => ?_) (fun _ => ?_)
  · refine x_ex1 hx4 v1_4 ?_
    refine x_iload_n C 25 1 dX1_refusedInAll_25 rfl ?_
    exact x_iret1 C R 26 dX1_refusedInAll_26
  · refine x_iload_n C 9 1 dX1_refusedInAll_9 rfl ?_
    refine x_aload_n C 10 0 dX1_refusedInAll_10 rfl ?_
    refine x_bipush C 11 dX1_refusedInAll_11 kb_48 ?_
    refine x_iload_n C 13 2 dX1_refusedInAll_13 rfl ?_
    refine Y_bnd1 (fun r14 h14 => ?_)
    refine x_callVi C 14 [.int (48 : Int32), .int v2_4] [.int v1_4] rfl tw_1152 mv_X1_sessionNumber (Nat.le_of_ble_eq_true rfl) (Nat.le_of_ble_eq_true rfl) (Nat.le_of_ble_eq_true rfl) (Nat.le_of_ble_eq_true rfl) (kc_28 V _) rfl dX1_refusedInAll_14 (c_X1_sessionNumber V _ _ _ _ h14) ?_
    refine x_iadd C 17 dX1_refusedInAll_17 ?_
    refine x_istore_nt C 18 (fun v1_18 => [(1, .int v1_18), (0, .ref (zA (Zc V) 28)), (2, .int v2_4)]) dX1_refusedInAll_18 rfl (hN _ (Nat.le_of_ble_eq_true rfl)) (fun _ => rfl) (fun v1_18 => ?_)
    refine x_iinct C 19 2 (1 : Int32) (fun v2_19 => [(2, .int v2_19), (1, .int v1_18), (0, .ref (zA (Zc V) 28))]) dX1_refusedInAll_19 rfl ki_1 (hN _ (Nat.le_of_ble_eq_true rfl)) (fun _ => rfl) (fun v2_19 => ?_)
    refine x_goto C 22 4 dX1_refusedInAll_22 (by decide) ?_
    refine Y_sub [2, 1, 0] rfl ?_
    exact x_back (v1_18, v2_19) (hb4 (v1_18, v2_19))
def M_J6_bitCount_0f7a4 (v0 : Int32) : Option Int32 :=
  lt (v0 - (((v0.toUInt32 >>> ((1 : Int32).toUInt32 &&& Int32.toUInt32 31)).toInt32) &&& (1431655765 : Int32))) fun v0_9 => lt ((v0_9 &&& (858993459 : Int32)) + (((v0_9.toUInt32 >>> ((2 : Int32).toUInt32 &&& Int32.toUInt32 31)).toInt32) &&& (858993459 : Int32))) fun v0_23 => lt ((v0_23 + ((v0_23.toUInt32 >>> ((4 : Int32).toUInt32 &&& Int32.toUInt32 31)).toInt32)) &&& (252645135 : Int32)) fun v0_33 => lt (v0_33 + ((v0_33.toUInt32 >>> ((8 : Int32).toUInt32 &&& Int32.toUInt32 31)).toInt32)) fun v0_40 => lt (v0_40 + ((v0_40.toUInt32 >>> ((16 : Int32).toUInt32 &&& Int32.toUInt32 31)).toInt32)) fun v0_47 => some (v0_47 &&& (63 : Int32))
set_option maxRecDepth 100000 in
set_option maxHeartbeats 4000000 in
theorem c_J6_bitCount_0f7a4 (V : Ct_V) (l : Launch) (σ : Wd) (v0 : Int32) {r : Int32} (h : M_J6_bitCount_0f7a4 v0 = some r) : Ct l (Zc V) yJ6_bitCount_0f7a4 cJ6_bitCount_0f7a4 1 (some .int) 0 0 [.int v0] σ (some (.int r)) σ := by
  refine Ct_intro (own := RJ6) zc_ok (by decide +kernel) rfl (Nat.le_of_ble_eq_true rfl) [(0, .int v0)] rfl (fun K C R hKl hnL => ?_)
  have hN := nl_of hnL
  subst hKl
  refine Y_end h ?_
  unfold M_J6_bitCount_0f7a4
  refine x_iload_n C 0 0 dJ6_bitCount_0f7a4_0 rfl ?_
  refine x_iload_n C 1 0 dJ6_bitCount_0f7a4_1 rfl ?_
  refine x_iconst C 2 dJ6_bitCount_0f7a4_2 ki_1 ?_
  refine x_iushr C 3 dJ6_bitCount_0f7a4_3 ?_
  refine x_ldcw C 4 (hw := tw_1053) dJ6_bitCount_0f7a4_4 ?_
  refine x_iand C 7 dJ6_bitCount_0f7a4_7 ?_
  refine x_isub C 8 dJ6_bitCount_0f7a4_8 ?_
  refine x_istore_nt C 9 (fun v0_9 => [(0, .int v0_9)]) dJ6_bitCount_0f7a4_9 rfl (hN _ (Nat.le_of_ble_eq_true rfl)) (fun _ => rfl) (fun v0_9 => ?_)
  refine x_iload_n C 10 0 dJ6_bitCount_0f7a4_10 rfl ?_
  refine x_ldcw C 11 (hw := tw_1054) dJ6_bitCount_0f7a4_11 ?_
  refine x_iand C 14 dJ6_bitCount_0f7a4_14 ?_
  refine x_iload_n C 15 0 dJ6_bitCount_0f7a4_15 rfl ?_
  refine x_iconst C 16 dJ6_bitCount_0f7a4_16 ki_2 ?_
  refine x_iushr C 17 dJ6_bitCount_0f7a4_17 ?_
  refine x_ldcw C 18 (hw := tw_1054) dJ6_bitCount_0f7a4_18 ?_
  refine x_iand C 21 dJ6_bitCount_0f7a4_21 ?_
  refine x_iadd C 22 dJ6_bitCount_0f7a4_22 ?_
  refine x_istore_nt C 23 (fun v0_23 => [(0, .int v0_23)]) dJ6_bitCount_0f7a4_23 rfl (hN _ (Nat.le_of_ble_eq_true rfl)) (fun _ => rfl) (fun v0_23 => ?_)
  refine x_iload_n C 24 0 dJ6_bitCount_0f7a4_24 rfl ?_
  refine x_iload_n C 25 0 dJ6_bitCount_0f7a4_25 rfl ?_
  refine x_iconst C 26 dJ6_bitCount_0f7a4_26 ki_4 ?_
  refine x_iushr C 27 dJ6_bitCount_0f7a4_27 ?_
  refine x_iadd C 28 dJ6_bitCount_0f7a4_28 ?_
  refine x_ldcw C 29 (hw := tw_1055) dJ6_bitCount_0f7a4_29 ?_
  refine x_iand C 32 dJ6_bitCount_0f7a4_32 ?_
  refine x_istore_nt C 33 (fun v0_33 => [(0, .int v0_33)]) dJ6_bitCount_0f7a4_33 rfl (hN _ (Nat.le_of_ble_eq_true rfl)) (fun _ => rfl) (fun v0_33 => ?_)
  refine x_iload_n C 34 0 dJ6_bitCount_0f7a4_34 rfl ?_
  refine x_iload_n C 35 0 dJ6_bitCount_0f7a4_35 rfl ?_
  refine x_bipush C 36 dJ6_bitCount_0f7a4_36 kb_8 ?_
  refine x_iushr C 38 dJ6_bitCount_0f7a4_38 ?_
  refine x_iadd C 39 dJ6_bitCount_0f7a4_39 ?_
  refine x_istore_nt C 40 (fun v0_40 => [(0, .int v0_40)]) dJ6_bitCount_0f7a4_40 rfl (hN _ (Nat.le_of_ble_eq_true rfl)) (fun _ => rfl) (fun v0_40 => ?_)
  refine x_iload_n C 41 0 dJ6_bitCount_0f7a4_41 rfl ?_
  refine x_iload_n C 42 0 dJ6_bitCount_0f7a4_42 rfl ?_
  refine x_bipush C 43 dJ6_bitCount_0f7a4_43 kb_16 ?_
  refine x_iushr C 45 dJ6_bitCount_0f7a4_45 ?_
  refine x_iadd C 46 dJ6_bitCount_0f7a4_46 ?_
  refine x_istore_nt C 47 (fun v0_47 => [(0, .int v0_47)]) dJ6_bitCount_0f7a4_47 rfl (hN _ (Nat.le_of_ble_eq_true rfl)) (fun _ => rfl) (fun v0_47 => ?_)
  refine x_iload_n C 48 0 dJ6_bitCount_0f7a4_48 rfl ?_
  refine x_bipush C 49 dJ6_bitCount_0f7a4_49 kb_63 ?_
  refine x_iand C 51 dJ6_bitCount_0f7a4_51 ?_
  exact x_iret1 C R 52 dJ6_bitCount_0f7a4_52
def M_X1_broughtBy_L12 (σ : Wd) (v1 : Int32) (v2 : Int64) (v4 : Int32) : Option ((Int64 × Int32) ⊕ (Int64)) :=
  bnd1 (M_X1_copies σ) fun r15 => if r15 ≤ v4 then (some (.inr v2)) else (if ((v1 >>> (v4 &&& 31)) &&& (1 : Int32)) = 0 then (lt (v4 + (1 : Int32)) fun v4_39 => some (.inl (v2, v4_39))) else (bnd1 (M_X1_setOf σ v4) fun r34 => lt (v2 ||| r34) fun v2_38 => lt (v4 + (1 : Int32)) fun v4_39 => some (.inl (v2_38, v4_39))))
def M_X1_broughtBy (σ : Wd) (v1 : Int32) : Option Int64 :=
  bnd1 (M_X1_primary σ) fun r2 => bnd1 (M_X1_setOf σ r2) fun r5 => bnd1 (iter (fun s : Int64 × Int32 => M_X1_broughtBy_L12 σ v1 s.1 s.2) FU (r5, (0 : Int32))) (un1 fun x2_12 => (some x2_12))
set_option maxRecDepth 100000 in
set_option maxHeartbeats 4000000 in
theorem c_X1_broughtBy (V : Ct_V) (l : Launch) (σ : Wd) (v1 : Int32) {r : Int64} (h : M_X1_broughtBy σ v1 = some r) : Ct l (Zc V) yX1_broughtBy cX1_broughtBy 5 (some .long) 1 21 [.ref (zA (Zc V) 28), .int v1] σ (some (.long r)) σ := by
  refine Ct_intro (own := RX1) zc_ok (by decide +kernel) rfl (Nat.le_of_ble_eq_true rfl) [(0, .ref (zA (Zc V) 28)), (1, .int v1)] rfl (fun K C R hKl hnL => ?_)
  have hN := nl_of hnL
  subst hKl
  refine Y_end h ?_
  unfold M_X1_broughtBy
  refine x_aload_n C 0 0 dX1_broughtBy_0 rfl ?_
  refine x_aload_n C 1 0 dX1_broughtBy_1 rfl ?_
  refine Y_bnd1 (fun r2 h2 => ?_)
  refine x_callVi C 2 [] [.ref (zA (Zc V) 28)] rfl tw_699 mv_X1_primary (Nat.le_of_ble_eq_true rfl) (Nat.le_of_ble_eq_true rfl) (Nat.le_of_ble_eq_true rfl) (Nat.le_of_ble_eq_true rfl) (kc_28 V _) rfl dX1_broughtBy_2 (c_X1_primary V _ _  h2) ?_
  refine Y_bnd1 (fun r5 h5 => ?_)
  refine x_callVl C 5 [.int r2] [] rfl tw_677 mv_X1_setOf (Nat.le_of_ble_eq_true rfl) (Nat.le_of_ble_eq_true rfl) (Nat.le_of_ble_eq_true rfl) (Nat.le_of_ble_eq_true rfl) (kc_28 V _) rfl dX1_broughtBy_5 (c_X1_setOf V _ _ _ h5) ?_
  refine x_lstore_n C 8 (L' := [(2, .long r5), (0, .ref (zA (Zc V) 28)), (1, .int v1)]) dX1_broughtBy_8 rfl (hN _ (Nat.le_of_ble_eq_true rfl)) rfl ?_
  refine x_iconst C 9 dX1_broughtBy_9 ki_0 ?_
  refine x_istore C 10 (L' := [(4, .int (0 : Int32)), (2, .long r5), (0, .ref (zA (Zc V) 28)), (1, .int v1)]) dX1_broughtBy_10 (hN _ (Nat.le_of_ble_eq_true rfl)) rfl ?_
  refine Y_sub [2, 3, 1, 0] rfl ?_
  refine x_loop 12 (fun s : Int64 × Int32 => σ) (fun s : Int64 × Int32 => [(0, .ref (zA (Zc V) 28)), (1, .int v1), (2, .long s.1), (4, .int s.2)]) (fun E12 hb12 hx12 s => ?_) FU (r5, (0 : Int32))
  obtain ⟨v2_12, v4_12⟩ := s
  show Y K (Zc V) (M_X1_broughtBy_L12 σ v1 v2_12 v4_12) E12 σ 12 [(0, .ref (zA (Zc V) 28)), (1, .int v1), (2, .long v2_12), (4, .int v4_12)] []
  unfold M_X1_broughtBy_L12
  refine x_iload C 12 3 dX1_broughtBy_12 rfl ?_
  refine x_aload_n C 14 0 dX1_broughtBy_14 rfl ?_
  refine Y_bnd1 (fun r15 h15 => ?_)
  refine x_callVi C 15 [] [.int v4_12] rfl tw_661 mv_X1_copies (Nat.le_of_ble_eq_true rfl) (Nat.le_of_ble_eq_true rfl) (Nat.le_of_ble_eq_true rfl) (Nat.le_of_ble_eq_true rfl) (kc_28 V _) rfl dX1_broughtBy_15 (c_X1_copies V _ _  h15) ?_
  refine x_icmp_ge C 18 45 dX1_broughtBy_18 (by decide) (fun _ => ?_) (fun _ => ?_)
  · refine x_ex1 hx12 v2_12 ?_
    refine x_lload_n C 45 2 dX1_broughtBy_45 rfl ?_
    exact x_lret1 C R 46 dX1_broughtBy_46
  · refine x_iload_n C 21 1 dX1_broughtBy_21 rfl ?_
    refine x_iload C 22 3 dX1_broughtBy_22 rfl ?_
    refine x_ishr C 24 dX1_broughtBy_24 ?_
    refine x_iconst C 25 dX1_broughtBy_25 ki_1 ?_
    refine x_iand C 26 dX1_broughtBy_26 ?_
    refine x_if_eq C 27 39 dX1_broughtBy_27 (by decide) (fun _ => ?_) (fun _ => ?_)
    · refine x_iinct C 39 3 (1 : Int32) (fun v4_39 => [(4, .int v4_39), (0, .ref (zA (Zc V) 28)), (1, .int v1), (2, .long v2_12)]) dX1_broughtBy_39 rfl ki_1 (hN _ (Nat.le_of_ble_eq_true rfl)) (fun _ => rfl) (fun v4_39 => ?_)
      refine x_goto C 42 12 dX1_broughtBy_42 (by decide) ?_
      refine Y_sub [1, 2, 3, 0] rfl ?_
      exact x_back (v2_12, v4_39) (hb12 (v2_12, v4_39))
    · refine x_lload_n C 30 2 dX1_broughtBy_30 rfl ?_
      refine x_aload_n C 31 0 dX1_broughtBy_31 rfl ?_
      refine x_iload C 32 3 dX1_broughtBy_32 rfl ?_
      refine Y_bnd1 (fun r34 h34 => ?_)
      refine x_callVl C 34 [.int v4_12] [.long v2_12] rfl tw_677 mv_X1_setOf (Nat.le_of_ble_eq_true rfl) (Nat.le_of_ble_eq_true rfl) (Nat.le_of_ble_eq_true rfl) (Nat.le_of_ble_eq_true rfl) (kc_28 V _) rfl dX1_broughtBy_34 (c_X1_setOf V _ _ _ h34) ?_
      refine x_lor C 37 dX1_broughtBy_37 ?_
      refine x_lstore_nt C 38 (fun v2_38 => [(2, .long v2_38), (0, .ref (zA (Zc V) 28)), (1, .int v1), (4, .int v4_12)]) dX1_broughtBy_38 rfl (hN _ (Nat.le_of_ble_eq_true rfl)) (fun _ => rfl) (fun v2_38 => ?_)
      refine x_iinct C 39 3 (1 : Int32) (fun v4_39 => [(4, .int v4_39), (2, .long v2_38), (0, .ref (zA (Zc V) 28)), (1, .int v1)]) dX1_broughtBy_39 rfl ki_1 (hN _ (Nat.le_of_ble_eq_true rfl)) (fun _ => rfl) (fun v4_39 => ?_)
      refine x_goto C 42 12 dX1_broughtBy_42 (by decide) ?_
      refine Y_sub [2, 3, 1, 0] rfl ?_
      exact x_back (v2_38, v4_39) (hb12 (v2_38, v4_39))
def M_X1_planGivers_J46 (σ : Wd) (v1 : Int64) (v3 : Int32) (v4 : Int32) (t0 : Int32) : Option ((Int32 × Int32) ⊕ (Int32)) :=
  if t0 = 0 then (lt (v4 + (-1 : Int32)) fun v4_67 => some (.inl (v3, v4_67))) else (bnd1 (M_X1_broughtBy σ v4) fun r56 => if (lg_cmp r56 v1) ≠ 0 then (lt (v4 + (-1 : Int32)) fun v4_67 => some (.inl (v3, v4_67))) else (lt (v4 + (-1 : Int32)) fun v4_67 => some (.inl (v4, v4_67))))
def M_X1_planGivers_L24 (σ : Wd) (v1 : Int64) (v3 : Int32) (v4 : Int32) : Option ((Int32 × Int32) ⊕ (Int32)) :=
  if v4 < 0 then (some (.inr v3)) else (bnd1 (M_J6_bitCount_0f7a4 v4) fun r31 => bnd1 (M_J6_bitCount_0f7a4 v3) fun r35 => if r35 < r31 then (M_X1_planGivers_J46 σ v1 v3 v4 (0 : Int32)) else (M_X1_planGivers_J46 σ v1 v3 v4 (1 : Int32)))
def M_X1_planGivers (σ : Wd) : Option Int32 :=
  bnd1 (M_X1_hadByAny σ) fun r1 => bnd1 (M_X1_copies σ) fun r7 => lt (((1 : Int32) <<< (r7 &&& 31)) - (1 : Int32)) fun v3_13 => bnd1 (M_X1_copies σ) fun r16 => lt (((1 : Int32) <<< (r16 &&& 31)) - (1 : Int32)) fun v4_22 => bnd1 (iter (fun s : Int32 × Int32 => M_X1_planGivers_L24 σ r1 s.1 s.2) FU (v3_13, v4_22)) (un1 fun x3_24 => (some x3_24))
set_option maxRecDepth 100000 in
set_option maxHeartbeats 4000000 in
theorem c_X1_planGivers (V : Ct_V) (l : Launch) (σ : Wd) {r : Int32} (h : M_X1_planGivers σ = some r) : Ct l (Zc V) yX1_planGivers cX1_planGivers 6 (some .int) 2 45 [.ref (zA (Zc V) 28)] σ (some (.int r)) σ := by
  refine Ct_intro (own := RX1) zc_ok (by decide +kernel) rfl (Nat.le_of_ble_eq_true rfl) [(0, .ref (zA (Zc V) 28))] rfl (fun K C R hKl hnL => ?_)
  have hN := nl_of hnL
  subst hKl
  refine Y_end h ?_
  unfold M_X1_planGivers
  refine x_aload_n C 0 0 dX1_planGivers_0 rfl ?_
  refine Y_bnd1 (fun r1 h1 => ?_)
  refine x_callVl C 1 [] [] rfl tw_1046 mv_X1_hadByAny (Nat.le_of_ble_eq_true rfl) (Nat.le_of_ble_eq_true rfl) (Nat.le_of_ble_eq_true rfl) (Nat.le_of_ble_eq_true rfl) (kc_28 V _) rfl dX1_planGivers_1 (c_X1_hadByAny V _ _  h1) ?_
  refine x_lstore_n C 4 (L' := [(1, .long r1), (0, .ref (zA (Zc V) 28))]) dX1_planGivers_4 rfl (hN _ (Nat.le_of_ble_eq_true rfl)) rfl ?_
  refine x_iconst C 5 dX1_planGivers_5 ki_1 ?_
  refine x_aload_n C 6 1 dX1_planGivers_6 rfl ?_
  refine Y_bnd1 (fun r7 h7 => ?_)
  refine x_callVi C 7 [] [.int (1 : Int32)] rfl tw_661 mv_X1_copies (Nat.le_of_ble_eq_true rfl) (Nat.le_of_ble_eq_true rfl) (Nat.le_of_ble_eq_true rfl) (Nat.le_of_ble_eq_true rfl) (kc_28 V _) rfl dX1_planGivers_7 (c_X1_copies V _ _  h7) ?_
  refine x_ishl C 10 dX1_planGivers_10 ?_
  refine x_iconst C 11 dX1_planGivers_11 ki_1 ?_
  refine x_isub C 12 dX1_planGivers_12 ?_
  refine x_istore_nt C 13 (fun v3_13 => [(3, .int v3_13), (1, .long r1), (0, .ref (zA (Zc V) 28))]) dX1_planGivers_13 rfl (hN _ (Nat.le_of_ble_eq_true rfl)) (fun _ => rfl) (fun v3_13 => ?_)
  refine x_iconst C 14 dX1_planGivers_14 ki_1 ?_
  refine x_aload_n C 15 2 dX1_planGivers_15 rfl ?_
  refine Y_bnd1 (fun r16 h16 => ?_)
  refine x_callVi C 16 [] [.int (1 : Int32)] rfl tw_661 mv_X1_copies (Nat.le_of_ble_eq_true rfl) (Nat.le_of_ble_eq_true rfl) (Nat.le_of_ble_eq_true rfl) (Nat.le_of_ble_eq_true rfl) (kc_28 V _) rfl dX1_planGivers_16 (c_X1_copies V _ _  h16) ?_
  refine x_ishl C 19 dX1_planGivers_19 ?_
  refine x_iconst C 20 dX1_planGivers_20 ki_1 ?_
  refine x_isub C 21 dX1_planGivers_21 ?_
  refine x_istoret C 22 (fun v4_22 => [(4, .int v4_22), (3, .int v3_13), (1, .long r1), (0, .ref (zA (Zc V) 28))]) dX1_planGivers_22 (hN _ (Nat.le_of_ble_eq_true rfl)) (fun _ => rfl) (fun v4_22 => ?_)
  refine Y_sub [3, 2, 1, 0] rfl ?_
  refine x_loop 24 (fun s : Int32 × Int32 => σ) (fun s : Int32 × Int32 => [(0, .ref (zA (Zc V) 28)), (1, .long r1), (3, .int s.1), (4, .int s.2)]) (fun E24 hb24 hx24 s => ?_) FU (v3_13, v4_22)
  obtain ⟨v3_24, v4_24⟩ := s
  show Y K (Zc V) (M_X1_planGivers_L24 σ r1 v3_24 v4_24) E24 σ 24 [(0, .ref (zA (Zc V) 28)), (1, .long r1), (3, .int v3_24), (4, .int v4_24)] []
  unfold M_X1_planGivers_L24
  refine x_iload C 24 3 dX1_planGivers_24 rfl ?_
  refine x_if_lt C 26 73 dX1_planGivers_26 (by decide) (fun _ => ?_) (fun _ => ?_)
  · refine x_ex1 hx24 v3_24 ?_
    refine x_iload_n C 73 2 dX1_planGivers_73 rfl ?_
    exact x_iret1 C R 74 dX1_planGivers_74
  · refine x_iload C 29 3 dX1_planGivers_29 rfl ?_
    refine Y_bnd1 (fun r31 h31 => ?_)
    refine x_callSi C 31 [.int v4_24] [] rfl tw_1050 ms_J6_bitCount_0f7a4 (Nat.le_of_ble_eq_true rfl) (Nat.le_of_ble_eq_true rfl) (Nat.le_of_ble_eq_true rfl) dX1_planGivers_31 (c_J6_bitCount_0f7a4 V _ _ _ h31) ?_
    refine x_iload_n C 34 2 dX1_planGivers_34 rfl ?_
    refine Y_bnd1 (fun r35 h35 => ?_)
    refine x_callSi C 35 [.int v3_24] [.int r31] rfl tw_1050 ms_J6_bitCount_0f7a4 (Nat.le_of_ble_eq_true rfl) (Nat.le_of_ble_eq_true rfl) (Nat.le_of_ble_eq_true rfl) dX1_planGivers_35 (c_J6_bitCount_0f7a4 V _ _ _ h35) ?_
    have hJ46 : ∀ (v3_46 : Int32) (v4_46 : Int32) (t0_46 : Int32), Y K (Zc V) (M_X1_planGivers_J46 σ r1 v3_46 v4_46 t0_46) E24 σ 46 [(0, .ref (zA (Zc V) 28)), (1, .long r1), (3, .int v3_46), (4, .int v4_46)] [.int t0_46] := by
      intro v3_46 v4_46 t0_46
      unfold M_X1_planGivers_J46
      refine x_istore C 46 (L' := [(5, .int t0_46), (0, .ref (zA (Zc V) 28)), (1, .long r1), (3, .int v3_46), (4, .int v4_46)]) dX1_planGivers_46 (hN _ (Nat.le_of_ble_eq_true rfl)) rfl ?_
      refine x_iload C 48 0 dX1_planGivers_48 rfl ?_
      refine x_if_eq C 50 67 dX1_planGivers_50 (by decide) (fun _ => ?_) (fun _ => ?_)
      · refine x_iinct C 67 4 (-1 : Int32) (fun v4_67 => [(4, .int v4_67), (5, .int t0_46), (0, .ref (zA (Zc V) 28)), (1, .long r1), (3, .int v3_46)]) dX1_planGivers_67 rfl ki_m1 (hN _ (Nat.le_of_ble_eq_true rfl)) (fun _ => rfl) (fun v4_67 => ?_)
        refine x_goto C 70 24 dX1_planGivers_70 (by decide) ?_
        refine Y_sub [2, 3, 4, 0] rfl ?_
        exact x_back (v3_46, v4_67) (hb24 (v3_46, v4_67))
      · refine x_aload_n C 53 1 dX1_planGivers_53 rfl ?_
        refine x_iload C 54 4 dX1_planGivers_54 rfl ?_
        refine Y_bnd1 (fun r56 h56 => ?_)
        refine x_callVl C 56 [.int v4_46] [] rfl tw_1056 mv_X1_broughtBy (Nat.le_of_ble_eq_true rfl) (Nat.le_of_ble_eq_true rfl) (Nat.le_of_ble_eq_true rfl) (Nat.le_of_ble_eq_true rfl) (kc_28 V _) rfl dX1_planGivers_56 (c_X1_broughtBy V _ _ _ h56) ?_
        refine x_lload_n C 59 2 dX1_planGivers_59 rfl ?_
        refine x_lcmp C 60 dX1_planGivers_60 ?_
        refine x_if_ne C 61 67 dX1_planGivers_61 (by decide) (fun _ => ?_) (fun _ => ?_)
        · refine x_iinct C 67 4 (-1 : Int32) (fun v4_67 => [(4, .int v4_67), (5, .int t0_46), (0, .ref (zA (Zc V) 28)), (1, .long r1), (3, .int v3_46)]) dX1_planGivers_67 rfl ki_m1 (hN _ (Nat.le_of_ble_eq_true rfl)) (fun _ => rfl) (fun v4_67 => ?_)
          refine x_goto C 70 24 dX1_planGivers_70 (by decide) ?_
          refine Y_sub [2, 3, 4, 0] rfl ?_
          exact x_back (v3_46, v4_67) (hb24 (v3_46, v4_67))
        · refine x_iload C 64 4 dX1_planGivers_64 rfl ?_
          refine x_istore_n C 66 (L' := [(3, .int v4_46), (5, .int t0_46), (0, .ref (zA (Zc V) 28)), (1, .long r1), (4, .int v4_46)]) dX1_planGivers_66 rfl (hN _ (Nat.le_of_ble_eq_true rfl)) rfl ?_
          refine x_iinct C 67 4 (-1 : Int32) (fun v4_67 => [(4, .int v4_67), (3, .int v4_46), (5, .int t0_46), (0, .ref (zA (Zc V) 28)), (1, .long r1)]) dX1_planGivers_67 rfl ki_m1 (hN _ (Nat.le_of_ble_eq_true rfl)) (fun _ => rfl) (fun v4_67 => ?_)
          refine x_goto C 70 24 dX1_planGivers_70 (by decide) ?_
          refine Y_sub [3, 4, 1, 0] rfl ?_
          exact x_back (v4_46, v4_67) (hb24 (v4_46, v4_67))
    refine x_icmp_gt C 38 45 dX1_planGivers_38 (by decide) (fun _ => ?_) (fun _ => ?_)
    · refine x_iconst C 45 dX1_planGivers_45 ki_0 ?_
      exact hJ46 _ _ _
    · refine x_iconst C 41 dX1_planGivers_41 ki_1 ?_
      refine x_goto C 42 46 dX1_planGivers_42 (by decide) ?_
      exact hJ46 _ _ _
def M_X1_planTakers_J64 (σ : Wd) (v2 : Int64) (v4 : Int32) (v5 : Int32) (v6 : Int32) (t0 : Int32) : Option ((Int32 × Int32) ⊕ (Int32)) :=
  bnd1 (M_X1_primary σ) fun r69 => if v6 = r69 then (lt (v6 + (1 : Int32)) fun v6_89 => some (.inl (v5, v6_89))) else (if t0 = 0 then (lt (v6 + (1 : Int32)) fun v6_89 => some (.inl (v5, v6_89))) else (lt (v5 ||| ((1 : Int32) <<< (v6 &&& 31))) fun v5_87 => lt (v6 + (1 : Int32)) fun v6_89 => some (.inl (v5_87, v6_89))))
def M_X1_planTakers_J59 (σ : Wd) (v2 : Int64) (v4 : Int32) (v5 : Int32) (v6 : Int32) : Option ((Int32 × Int32) ⊕ (Int32)) :=
  M_X1_planTakers_J64 σ v2 v4 v5 v6 (1 : Int32)
def M_X1_planTakers_L28 (σ : Wd) (v2 : Int64) (v4 : Int32) (v5 : Int32) (v6 : Int32) : Option ((Int32 × Int32) ⊕ (Int32)) :=
  bnd1 (M_X1_copies σ) fun r31 => if r31 ≤ v6 then (some (.inr v5)) else (bnd1 (M_X1_setOf σ v6) fun r40 => if (lg_cmp r40 v2) ≠ 0 then (M_X1_planTakers_J59 σ v2 v4 v5 v6) else (bnd1 (M_X1_knownOf σ v6) fun r51 => if r51 = v4 then (M_X1_planTakers_J64 σ v2 v4 v5 v6 (0 : Int32)) else (M_X1_planTakers_J59 σ v2 v4 v5 v6)))
def M_X1_planTakers_J20 (σ : Wd) (v2 : Int64) (t0 : Int32) : Option Int32 :=
  bnd1 (iter (fun s : Int32 × Int32 => M_X1_planTakers_L28 σ v2 t0 s.1 s.2) FU ((0 : Int32), (0 : Int32))) (un1 fun x5_28 => (some x5_28))
def M_X1_planTakers (σ : Wd) (v1 : Int32) : Option Int32 :=
  bnd1 (M_X1_hadByAny σ) fun r1 => if v1 ≠ 0 then (bnd1 (M_X1_writes σ) fun r17 => M_X1_planTakers_J20 σ r1 r17) else (bnd1 (M_X1_ordered σ) fun r10 => M_X1_planTakers_J20 σ r1 r10)
set_option maxRecDepth 100000 in
set_option maxHeartbeats 4000000 in
theorem c_X1_planTakers (V : Ct_V) (l : Launch) (σ : Wd) (v1 : Int32) {r : Int32} (h : M_X1_planTakers σ v1 = some r) : Ct l (Zc V) yX1_planTakers cX1_planTakers 8 (some .int) 2 44 [.ref (zA (Zc V) 28), .int v1] σ (some (.int r)) σ := by
  refine Ct_intro (own := RX1) zc_ok (by decide +kernel) rfl (Nat.le_of_ble_eq_true rfl) [(0, .ref (zA (Zc V) 28)), (1, .int v1)] rfl (fun K C R hKl hnL => ?_)
  have hN := nl_of hnL
  subst hKl
  refine Y_end h ?_
  unfold M_X1_planTakers
  refine x_aload_n C 0 0 dX1_planTakers_0 rfl ?_
  refine Y_bnd1 (fun r1 h1 => ?_)
  refine x_callVl C 1 [] [] rfl tw_1046 mv_X1_hadByAny (Nat.le_of_ble_eq_true rfl) (Nat.le_of_ble_eq_true rfl) (Nat.le_of_ble_eq_true rfl) (Nat.le_of_ble_eq_true rfl) (kc_28 V _) rfl dX1_planTakers_1 (c_X1_hadByAny V _ _  h1) ?_
  refine x_lstore_n C 4 (L' := [(2, .long r1), (0, .ref (zA (Zc V) 28)), (1, .int v1)]) dX1_planTakers_4 rfl (hN _ (Nat.le_of_ble_eq_true rfl)) rfl ?_
  refine x_iload_n C 5 2 dX1_planTakers_5 rfl ?_
  have hJ20 : ∀ (v2_20 : Int64) (t0_20 : Int32), Y K (Zc V) (M_X1_planTakers_J20 σ v2_20 t0_20) (fun q => q = r) σ 20 [(0, .ref (zA (Zc V) 28)), (2, .long v2_20)] [.int t0_20] := by
    intro v2_20 t0_20
    unfold M_X1_planTakers_J20
    refine x_istore C 20 (L' := [(4, .int t0_20), (0, .ref (zA (Zc V) 28)), (2, .long v2_20)]) dX1_planTakers_20 (hN _ (Nat.le_of_ble_eq_true rfl)) rfl ?_
    refine x_iconst C 22 dX1_planTakers_22 ki_0 ?_
    refine x_istore C 23 (L' := [(5, .int (0 : Int32)), (4, .int t0_20), (0, .ref (zA (Zc V) 28)), (2, .long v2_20)]) dX1_planTakers_23 (hN _ (Nat.le_of_ble_eq_true rfl)) rfl ?_
    refine x_iconst C 25 dX1_planTakers_25 ki_0 ?_
    refine x_istore C 26 (L' := [(6, .int (0 : Int32)), (5, .int (0 : Int32)), (4, .int t0_20), (0, .ref (zA (Zc V) 28)), (2, .long v2_20)]) dX1_planTakers_26 (hN _ (Nat.le_of_ble_eq_true rfl)) rfl ?_
    refine Y_sub [3, 4, 2, 1, 0] rfl ?_
    refine x_loop 28 (fun s : Int32 × Int32 => σ) (fun s : Int32 × Int32 => [(0, .ref (zA (Zc V) 28)), (2, .long v2_20), (4, .int t0_20), (5, .int s.1), (6, .int s.2)]) (fun E28 hb28 hx28 s => ?_) FU ((0 : Int32), (0 : Int32))
    obtain ⟨v5_28, v6_28⟩ := s
    show Y K (Zc V) (M_X1_planTakers_L28 σ v2_20 t0_20 v5_28 v6_28) E28 σ 28 [(0, .ref (zA (Zc V) 28)), (2, .long v2_20), (4, .int t0_20), (5, .int v5_28), (6, .int v6_28)] []
    unfold M_X1_planTakers_L28
    refine x_iload C 28 4 dX1_planTakers_28 rfl ?_
    refine x_aload_n C 30 0 dX1_planTakers_30 rfl ?_
    refine Y_bnd1 (fun r31 h31 => ?_)
    refine x_callVi C 31 [] [.int v6_28] rfl tw_661 mv_X1_copies (Nat.le_of_ble_eq_true rfl) (Nat.le_of_ble_eq_true rfl) (Nat.le_of_ble_eq_true rfl) (Nat.le_of_ble_eq_true rfl) (kc_28 V _) rfl dX1_planTakers_31 (c_X1_copies V _ _  h31) ?_
    refine x_icmp_ge C 34 95 dX1_planTakers_34 (by decide) (fun _ => ?_) (fun _ => ?_)
    · refine x_ex1 hx28 v5_28 ?_
      refine x_iload C 95 3 dX1_planTakers_95 rfl ?_
      exact x_iret1 C R 97 dX1_planTakers_97
    · refine x_aload_n C 37 0 dX1_planTakers_37 rfl ?_
      refine x_iload C 38 4 dX1_planTakers_38 rfl ?_
      refine Y_bnd1 (fun r40 h40 => ?_)
      refine x_callVl C 40 [.int v6_28] [] rfl tw_677 mv_X1_setOf (Nat.le_of_ble_eq_true rfl) (Nat.le_of_ble_eq_true rfl) (Nat.le_of_ble_eq_true rfl) (Nat.le_of_ble_eq_true rfl) (kc_28 V _) rfl dX1_planTakers_40 (c_X1_setOf V _ _ _ h40) ?_
      refine x_lload_n C 43 1 dX1_planTakers_43 rfl ?_
      refine x_lcmp C 44 dX1_planTakers_44 ?_
      have hJ64 : ∀ (v5_64 : Int32) (v6_64 : Int32) (t0_64 : Int32), Y K (Zc V) (M_X1_planTakers_J64 σ v2_20 t0_20 v5_64 v6_64 t0_64) E28 σ 64 [(0, .ref (zA (Zc V) 28)), (2, .long v2_20), (4, .int t0_20), (5, .int v5_64), (6, .int v6_64)] [.int t0_64] := by
        intro v5_64 v6_64 t0_64
        unfold M_X1_planTakers_J64
        refine x_istore C 64 (L' := [(7, .int t0_64), (0, .ref (zA (Zc V) 28)), (2, .long v2_20), (4, .int t0_20), (5, .int v5_64), (6, .int v6_64)]) dX1_planTakers_64 (hN _ (Nat.le_of_ble_eq_true rfl)) rfl ?_
        refine x_iload C 66 5 dX1_planTakers_66 rfl ?_
        refine x_aload_n C 68 1 dX1_planTakers_68 rfl ?_
        refine Y_bnd1 (fun r69 h69 => ?_)
        refine x_callVi C 69 [] [.int v6_64] rfl tw_699 mv_X1_primary (Nat.le_of_ble_eq_true rfl) (Nat.le_of_ble_eq_true rfl) (Nat.le_of_ble_eq_true rfl) (Nat.le_of_ble_eq_true rfl) (kc_28 V _) rfl dX1_planTakers_69 (c_X1_primary V _ _  h69) ?_
        refine x_icmp_eq C 72 89 dX1_planTakers_72 (by decide) (fun _ => ?_) (fun _ => ?_)
        · refine x_iinct C 89 5 (1 : Int32) (fun v6_89 => [(6, .int v6_89), (7, .int t0_64), (0, .ref (zA (Zc V) 28)), (2, .long v2_20), (4, .int t0_20), (5, .int v5_64)]) dX1_planTakers_89 rfl ki_1 (hN _ (Nat.le_of_ble_eq_true rfl)) (fun _ => rfl) (fun v6_89 => ?_)
          refine x_goto C 92 28 dX1_planTakers_92 (by decide) ?_
          refine Y_sub [2, 3, 4, 5, 0] rfl ?_
          exact x_back (v5_64, v6_89) (hb28 (v5_64, v6_89))
        · refine x_iload C 75 0 dX1_planTakers_75 rfl ?_
          refine x_if_eq C 77 89 dX1_planTakers_77 (by decide) (fun _ => ?_) (fun _ => ?_)
          · refine x_iinct C 89 5 (1 : Int32) (fun v6_89 => [(6, .int v6_89), (7, .int t0_64), (0, .ref (zA (Zc V) 28)), (2, .long v2_20), (4, .int t0_20), (5, .int v5_64)]) dX1_planTakers_89 rfl ki_1 (hN _ (Nat.le_of_ble_eq_true rfl)) (fun _ => rfl) (fun v6_89 => ?_)
            refine x_goto C 92 28 dX1_planTakers_92 (by decide) ?_
            refine Y_sub [2, 3, 4, 5, 0] rfl ?_
            exact x_back (v5_64, v6_89) (hb28 (v5_64, v6_89))
          · refine x_iload C 80 4 dX1_planTakers_80 rfl ?_
            refine x_iconst C 82 dX1_planTakers_82 ki_1 ?_
            refine x_iload C 83 5 dX1_planTakers_83 rfl ?_
            refine x_ishl C 85 dX1_planTakers_85 ?_
            refine x_ior C 86 dX1_planTakers_86 ?_
            refine x_istoret C 87 (fun v5_87 => [(5, .int v5_87), (7, .int t0_64), (0, .ref (zA (Zc V) 28)), (2, .long v2_20), (4, .int t0_20), (6, .int v6_64)]) dX1_planTakers_87 (hN _ (Nat.le_of_ble_eq_true rfl)) (fun _ => rfl) (fun v5_87 => ?_)
            refine x_iinct C 89 5 (1 : Int32) (fun v6_89 => [(6, .int v6_89), (5, .int v5_87), (7, .int t0_64), (0, .ref (zA (Zc V) 28)), (2, .long v2_20), (4, .int t0_20)]) dX1_planTakers_89 rfl ki_1 (hN _ (Nat.le_of_ble_eq_true rfl)) (fun _ => rfl) (fun v6_89 => ?_)
            refine x_goto C 92 28 dX1_planTakers_92 (by decide) ?_
            refine Y_sub [3, 4, 5, 1, 0] rfl ?_
            exact x_back (v5_87, v6_89) (hb28 (v5_87, v6_89))
      have hJ59 : ∀ (v5_59 : Int32) (v6_59 : Int32), Y K (Zc V) (M_X1_planTakers_J59 σ v2_20 t0_20 v5_59 v6_59) E28 σ 59 [(0, .ref (zA (Zc V) 28)), (2, .long v2_20), (4, .int t0_20), (5, .int v5_59), (6, .int v6_59)] [] := by
        intro v5_59 v6_59
        unfold M_X1_planTakers_J59
        refine x_iconst C 59 dX1_planTakers_59 ki_1 ?_
        refine x_goto C 60 64 dX1_planTakers_60 (by decide) ?_
        exact hJ64 _ _ _
      refine x_if_ne C 45 59 dX1_planTakers_45 (by decide) (fun _ => ?_) (fun _ => ?_)
      · exact hJ59 _ _
      · refine x_aload_n C 48 0 dX1_planTakers_48 rfl ?_
        refine x_iload C 49 4 dX1_planTakers_49 rfl ?_
        refine Y_bnd1 (fun r51 h51 => ?_)
        refine x_callVi C 51 [.int v6_28] [] rfl tw_703 mv_X1_knownOf (Nat.le_of_ble_eq_true rfl) (Nat.le_of_ble_eq_true rfl) (Nat.le_of_ble_eq_true rfl) (Nat.le_of_ble_eq_true rfl) (kc_28 V _) rfl dX1_planTakers_51 (c_X1_knownOf V _ _ _ h51) ?_
        refine x_iload C 54 2 dX1_planTakers_54 rfl ?_
        refine x_icmp_eq C 56 63 dX1_planTakers_56 (by decide) (fun _ => ?_) (fun _ => ?_)
        · refine x_iconst C 63 dX1_planTakers_63 ki_0 ?_
          exact hJ64 _ _ _
        · exact hJ59 _ _
  refine x_if_ne C 6 16 dX1_planTakers_6 (by decide) (fun _ => ?_) (fun _ => ?_)
  · refine x_aload_n C 16 1 dX1_planTakers_16 rfl ?_
    refine Y_bnd1 (fun r17 h17 => ?_)
    refine x_callVi C 17 [] [] rfl tw_669 mv_X1_writes (Nat.le_of_ble_eq_true rfl) (Nat.le_of_ble_eq_true rfl) (Nat.le_of_ble_eq_true rfl) (Nat.le_of_ble_eq_true rfl) (kc_28 V _) rfl dX1_planTakers_17 (c_X1_writes V _ _  h17) ?_
    refine Y_sub [1, 0] rfl ?_
    exact hJ20 _ _
  · refine x_aload_n C 9 1 dX1_planTakers_9 rfl ?_
    refine Y_bnd1 (fun r10 h10 => ?_)
    refine x_callVi C 10 [] [] rfl tw_720 mv_X1_ordered (Nat.le_of_ble_eq_true rfl) (Nat.le_of_ble_eq_true rfl) (Nat.le_of_ble_eq_true rfl) (Nat.le_of_ble_eq_true rfl) (kc_28 V _) rfl dX1_planTakers_10 (c_X1_ordered V _ _  h10) ?_
    refine x_goto C 13 20 dX1_planTakers_13 (by decide) ?_
    refine Y_sub [1, 0] rfl ?_
    exact hJ20 _ _
def M_X2_keep (σ : Wd) : Option Wd :=
  chk (ib (gI σ 66 1) 40) (chk (¬ (0 : Int32) < 0 ∧ ¬ (0 : Int32) < 0 ∧ ¬ (96 : Int32) < 0 ∧ ix (0 : Int32) + ix (96 : Int32) ≤ 96 ∧ ix (0 : Int32) + ix (96 : Int32) ≤ 96) (lt (rL σ (68 + ix (gI σ 66 1)) (va_cpy (σ.2.1 29) (σ.2.1 (68 + ix (gI σ 66 1))) (ix (0 : Int32)) (ix (0 : Int32)) (ix (96 : Int32)))) fun s_17 => chk (¬ (40 : Int32) = 0) (lt (uI s_17 66 1 (((gI s_17 66 1) + (1 : Int32)) - ((gI s_17 66 1) + (1 : Int32)) / (40 : Int32) * (40 : Int32))) fun s_30 => lt (uI s_30 66 2 (if (40 : Int32) < ((gI s_30 66 2) + (1 : Int32)) then (40 : Int32) else ((gI s_30 66 2) + (1 : Int32)))) fun s_45 => some s_45)))
set_option maxRecDepth 100000 in
set_option maxHeartbeats 4000000 in
theorem c_X2_keep (V : Ct_V) (l : Launch) (σ : Wd) {σ2 : Wd} (h : M_X2_keep σ = some σ2) : Ct l (Zc V) yX2_keep cX2_keep 2 none 1 80 [.ref (zA (Zc V) 66), .ref (zA (Zc V) 28)] σ none σ2 := by
  refine Ct_intro (own := RX2) zc_ok (by decide +kernel) rfl (Nat.le_of_ble_eq_true rfl) [(0, .ref (zA (Zc V) 66)), (1, .ref (zA (Zc V) 28))] rfl (fun K C R hKl hnL => ?_)
  have hN := nl_of hnL
  subst hKl
  refine Y_end h ?_
  unfold M_X2_keep
  refine x_aload_n C 0 1 dX2_keep_0 rfl ?_
  refine fgc_X2_18 C 1 dX2_keep_1 ?_
  refine x_iconst C 4 dX2_keep_4 ki_0 ?_
  refine x_aload_n C 5 0 dX2_keep_5 rfl ?_
  refine fgc_X2_13 C 6 dX2_keep_6 ?_
  refine x_aload_n C 9 0 dX2_keep_9 rfl ?_
  refine fgc_X2_22 C 10 dX2_keep_10 ?_
  refine Y_chk (fun q13 => ?_)
  refine x_aldR C 13 q13 dX2_keep_13 ?_
  refine x_iconst C 14 dX2_keep_14 ki_0 ?_
  refine x_bipush C 15 dX2_keep_15 kb_96 ?_
  refine x_copyl C 17 (Nat.le_of_ble_eq_true rfl) (kc_29 V _) (ltRow q13) (kRow V q13) tw_645 tw_647 tw_646 tw_56 (Nat.le_of_ble_eq_true rfl) (Nat.le_of_ble_eq_true rfl) dX2_keep_17 (fun _ s_17 => ?_)
  refine x_aload_n C 20 0 dX2_keep_20 rfl ?_
  refine x_aload_n C 21 0 dX2_keep_21 rfl ?_
  refine fgc_X2_22 C 22 dX2_keep_22 ?_
  refine x_iconst C 25 dX2_keep_25 ki_1 ?_
  refine x_iadd C 26 dX2_keep_26 ?_
  refine x_bipush C 27 dX2_keep_27 kb_40 ?_
  refine Y_chk (fun q29 => ?_)
  refine x_irem C 29 dX2_keep_29 q29 ?_
  refine fpc_X2_22 C 30 dX2_keep_30 (fun s_30 => ?_)
  refine x_aload_n C 33 0 dX2_keep_33 rfl ?_
  refine x_aload_n C 34 0 dX2_keep_34 rfl ?_
  refine fgc_X2_32 C 35 dX2_keep_35 ?_
  refine x_iconst C 38 dX2_keep_38 ki_1 ?_
  refine x_iadd C 39 dX2_keep_39 ?_
  refine x_bipush C 40 dX2_keep_40 kb_40 ?_
  refine x_mmin C 42 tw_648 tw_414 tw_49 tw_415 (Nat.le_of_ble_eq_true rfl) (Nat.le_of_ble_eq_true rfl) dX2_keep_42 ?_
  refine fpc_X2_32 C 45 dX2_keep_45 (fun s_45 => ?_)
  exact x_vret C R 48 dX2_keep_48
def M_X2_bringBack (σ : Wd) : Option (Int32 × Wd) :=
  if (gI σ 66 2) ≠ 0 then (chk (¬ (40 : Int32) = 0) (lt (uI σ 66 1 ((((gI σ 66 1) + (40 : Int32)) - (1 : Int32)) - (((gI σ 66 1) + (40 : Int32)) - (1 : Int32)) / (40 : Int32) * (40 : Int32))) fun s_22 => lt (uI s_22 66 2 ((gI s_22 66 2) - (1 : Int32))) fun s_32 => chk (ib (gI s_32 66 1) 40) (chk (¬ (0 : Int32) < 0 ∧ ¬ (0 : Int32) < 0 ∧ ¬ (96 : Int32) < 0 ∧ ix (0 : Int32) + ix (96 : Int32) ≤ 96 ∧ ix (0 : Int32) + ix (96 : Int32) ≤ 96) (lt (rL s_32 29 (va_cpy (s_32.2.1 (68 + ix (gI s_32 66 1))) (s_32.2.1 29) (ix (0 : Int32)) (ix (0 : Int32)) (ix (96 : Int32)))) fun s_52 => some ((1 : Int32), s_52))))) else (some ((0 : Int32), σ))
set_option maxRecDepth 100000 in
set_option maxHeartbeats 4000000 in
theorem c_X2_bringBack (V : Ct_V) (l : Launch) (σ : Wd) {r : Int32} {σ2 : Wd} (h : M_X2_bringBack σ = some (r, σ2)) : Ct l (Zc V) yX2_bringBack cX2_bringBack 2 (some .boolean) 1 80 [.ref (zA (Zc V) 66), .ref (zA (Zc V) 28)] σ (some (.int r)) σ2 := by
  refine Ct_intro (own := RX2) zc_ok (by decide +kernel) rfl (Nat.le_of_ble_eq_true rfl) [(0, .ref (zA (Zc V) 66)), (1, .ref (zA (Zc V) 28))] rfl (fun K C R hKl hnL => ?_)
  have hN := nl_of hnL
  subst hKl
  refine Y_end h ?_
  unfold M_X2_bringBack
  refine x_aload_n C 0 0 dX2_bringBack_0 rfl ?_
  refine fgc_X2_32 C 1 dX2_bringBack_1 ?_
  refine x_if_ne C 4 9 dX2_bringBack_4 (by decide) (fun _ => ?_) (fun _ => ?_)
  · refine x_aload_n C 9 0 dX2_bringBack_9 rfl ?_
    refine x_aload_n C 10 0 dX2_bringBack_10 rfl ?_
    refine fgc_X2_22 C 11 dX2_bringBack_11 ?_
    refine x_bipush C 14 dX2_bringBack_14 kb_40 ?_
    refine x_iadd C 16 dX2_bringBack_16 ?_
    refine x_iconst C 17 dX2_bringBack_17 ki_1 ?_
    refine x_isub C 18 dX2_bringBack_18 ?_
    refine x_bipush C 19 dX2_bringBack_19 kb_40 ?_
    refine Y_chk (fun q21 => ?_)
    refine x_irem C 21 dX2_bringBack_21 q21 ?_
    refine fpc_X2_22 C 22 dX2_bringBack_22 (fun s_22 => ?_)
    refine x_aload_n C 25 0 dX2_bringBack_25 rfl ?_
    refine x_dup C 26 dX2_bringBack_26 rfl ?_
    refine fgc_X2_32 C 27 dX2_bringBack_27 ?_
    refine x_iconst C 30 dX2_bringBack_30 ki_1 ?_
    refine x_isub C 31 dX2_bringBack_31 ?_
    refine fpc_X2_32 C 32 dX2_bringBack_32 (fun s_32 => ?_)
    refine x_aload_n C 35 0 dX2_bringBack_35 rfl ?_
    refine fgc_X2_13 C 36 dX2_bringBack_36 ?_
    refine x_aload_n C 39 0 dX2_bringBack_39 rfl ?_
    refine fgc_X2_22 C 40 dX2_bringBack_40 ?_
    refine Y_chk (fun q43 => ?_)
    refine x_aldR C 43 q43 dX2_bringBack_43 ?_
    refine x_iconst C 44 dX2_bringBack_44 ki_0 ?_
    refine x_aload_n C 45 1 dX2_bringBack_45 rfl ?_
    refine fgc_X2_18 C 46 dX2_bringBack_46 ?_
    refine x_iconst C 49 dX2_bringBack_49 ki_0 ?_
    refine x_bipush C 50 dX2_bringBack_50 kb_96 ?_
    refine x_copyl C 52 (ltRow q43) (kRow V q43 _) (Nat.le_of_ble_eq_true rfl) (kc_29 V) tw_645 tw_647 tw_646 tw_56 (Nat.le_of_ble_eq_true rfl) (Nat.le_of_ble_eq_true rfl) dX2_bringBack_52 (fun _ s_52 => ?_)
    refine x_iconst C 55 dX2_bringBack_55 ki_1 ?_
    exact x_zret2 C R 56 (zb_nar (r := (1 : Int32)) (Or.inr rfl)) dX2_bringBack_56
  · refine x_iconst C 7 dX2_bringBack_7 ki_0 ?_
    exact x_zret2 C R 8 (zb_nar (r := (0 : Int32)) (Or.inl rfl)) dX2_bringBack_8
def M_X2_forget (σ : Wd) : Option Wd :=
  lt (uI σ 66 2 (0 : Int32)) fun s_2 => some s_2
set_option maxRecDepth 100000 in
set_option maxHeartbeats 4000000 in
theorem c_X2_forget (V : Ct_V) (l : Launch) (σ : Wd) {σ2 : Wd} (h : M_X2_forget σ = some σ2) : Ct l (Zc V) yX2_forget cX2_forget 1 none 0 0 [.ref (zA (Zc V) 66)] σ none σ2 := by
  refine Ct_intro (own := RX2) zc_ok (by decide +kernel) rfl (Nat.le_of_ble_eq_true rfl) [(0, .ref (zA (Zc V) 66))] rfl (fun K C R hKl hnL => ?_)
  have hN := nl_of hnL
  subst hKl
  refine Y_end h ?_
  unfold M_X2_forget
  refine x_aload_n C 0 0 dX2_forget_0 rfl ?_
  refine x_iconst C 1 dX2_forget_1 ki_0 ?_
  refine fpc_X2_32 C 2 dX2_forget_2 (fun s_2 => ?_)
  exact x_vret C R 5 dX2_forget_5
def M_X7_clear (σ : Wd) (g0 : Nat) : Option Wd :=
  lt (uI σ g0 0 (3 : Int32)) fun s_2 => lt (uI s_2 g0 1 (0 : Int32)) fun s_7 => lt (uI s_7 g0 2 (0 : Int32)) fun s_12 => lt (uI s_12 g0 3 (0 : Int32)) fun s_17 => lt (uI s_17 g0 4 (0 : Int32)) fun s_22 => lt (uI s_22 g0 13 (0 : Int32)) fun s_27 => some s_27
set_option maxRecDepth 100000 in
set_option maxHeartbeats 4000000 in
theorem c_X7_clear (V : Ct_V) (l : Launch) (σ : Wd) (g0 : Nat) (hg0 : famT g0) {σ2 : Wd} (h : M_X7_clear σ g0 = some σ2) : Ct l (Zc V) yX7_clear cX7_clear 1 none 0 0 [.ref (zA (Zc V) g0)] σ none σ2 := by
  refine Ct_intro (own := RX7) zc_ok (by decide +kernel) rfl (Nat.le_of_ble_eq_true rfl) [(0, .ref (zA (Zc V) g0))] rfl (fun K C R hKl hnL => ?_)
  have hN := nl_of hnL
  subst hKl
  refine Y_end h ?_
  unfold M_X7_clear
  refine x_aload_n C 0 0 dX7_clear_0 rfl ?_
  refine x_iconst C 1 dX7_clear_1 ki_3 ?_
  refine fpf_X7_37 (hg0) C 2 dX7_clear_2 (fun s_2 => ?_)
  refine x_aload_n C 5 0 dX7_clear_5 rfl ?_
  refine x_iconst C 6 dX7_clear_6 ki_0 ?_
  refine fpf_X7_41 (hg0) C 7 dX7_clear_7 (fun s_7 => ?_)
  refine x_aload_n C 10 0 dX7_clear_10 rfl ?_
  refine x_iconst C 11 dX7_clear_11 ki_0 ?_
  refine fpf_X7_44 (hg0) C 12 dX7_clear_12 (fun s_12 => ?_)
  refine x_aload_n C 15 0 dX7_clear_15 rfl ?_
  refine x_iconst C 16 dX7_clear_16 ki_0 ?_
  refine fpf_X7_47 (hg0) C 17 dX7_clear_17 (fun s_17 => ?_)
  refine x_aload_n C 20 0 dX7_clear_20 rfl ?_
  refine x_iconst C 21 dX7_clear_21 ki_0 ?_
  refine fpf_X7_50 (hg0) C 22 dX7_clear_22 (fun s_22 => ?_)
  refine x_aload_n C 25 0 dX7_clear_25 rfl ?_
  refine x_iconst C 26 dX7_clear_26 ki_0 ?_
  refine fpf_X7_53 (hg0) C 27 dX7_clear_27 (fun s_27 => ?_)
  exact x_vret C R 30 dX7_clear_30
def M_X6_skipBlanks_J52 (σ : Wd) (v2 : Int32) : Option ((Wd) ⊕ (Wd)) :=
  lt (uI σ 6 5 ((gI σ 6 5) + (1 : Int32))) fun s_59 => some (.inl s_59)
def M_X6_skipBlanks_L0 (v2 : Int32) (σ : Wd) : Option ((Wd) ⊕ (Wd)) :=
  if v2 ≤ (gI σ 6 5) then (some (.inr σ)) else (chk (ib (gI σ 6 5) 2000) (if (gI σ 1 (ix (gI σ 6 5))) = (9 : Int32) then (M_X6_skipBlanks_J52 σ v2) else (chk (ib (gI σ 6 5) 2000) (if (gI σ 1 (ix (gI σ 6 5))) = (10 : Int32) then (M_X6_skipBlanks_J52 σ v2) else (chk (ib (gI σ 6 5) 2000) (if (gI σ 1 (ix (gI σ 6 5))) = (13 : Int32) then (M_X6_skipBlanks_J52 σ v2) else (chk (ib (gI σ 6 5) 2000) (if (gI σ 1 (ix (gI σ 6 5))) ≠ (32 : Int32) then (some (.inr σ)) else (M_X6_skipBlanks_J52 σ v2)))))))))
def M_X6_skipBlanks (σ : Wd) (v2 : Int32) : Option Wd :=
  bnd1 (iter (fun s : Wd => M_X6_skipBlanks_L0 v2 s) FU σ) (un1 fun sx_0 => (some sx_0))
set_option maxRecDepth 100000 in
set_option maxHeartbeats 4000000 in
theorem c_X6_skipBlanks (V : Ct_V) (l : Launch) (σ : Wd) (v2 : Int32) {σ2 : Wd} (h : M_X6_skipBlanks σ v2 = some σ2) : Ct l (Zc V) yX6_skipBlanks cX6_skipBlanks 3 none 0 0 [.ref (zA (Zc V) 6), .ref (zA (Zc V) 1), .int v2] σ none σ2 := by
  refine Ct_intro (own := RX6) zc_ok (by decide +kernel) rfl (Nat.le_of_ble_eq_true rfl) [(0, .ref (zA (Zc V) 6)), (1, .ref (zA (Zc V) 1)), (2, .int v2)] rfl (fun K C R hKl hnL => ?_)
  have hN := nl_of hnL
  subst hKl
  refine Y_end h ?_
  unfold M_X6_skipBlanks
  refine x_loop 0 (fun s : Wd => s) (fun s : Wd => [(0, .ref (zA (Zc V) 6)), (1, .ref (zA (Zc V) 1)), (2, .int v2)]) (fun E0 hb0 hx0 s => ?_) FU σ
  obtain ⟨s_0, rfl⟩ : ∃ z, z = s := ⟨s, rfl⟩
  show Y K (Zc V) (M_X6_skipBlanks_L0 v2 s_0) E0 s_0 0 [(0, .ref (zA (Zc V) 6)), (1, .ref (zA (Zc V) 1)), (2, .int v2)] []
  unfold M_X6_skipBlanks_L0
  refine x_aload_n C 0 0 dX6_skipBlanks_0 rfl ?_
  refine fgc_X6_33 C 1 dX6_skipBlanks_1 ?_
  refine x_iload_n C 4 2 dX6_skipBlanks_4 rfl ?_
  refine x_icmp_ge C 5 65 dX6_skipBlanks_5 (by decide) (fun _ => ?_) (fun _ => ?_)
  · refine x_ex1 hx0 s_0 ?_
    exact x_vret C R 65 dX6_skipBlanks_65
  · refine x_aload_n C 8 1 dX6_skipBlanks_8 rfl ?_
    refine x_aload_n C 9 0 dX6_skipBlanks_9 rfl ?_
    refine fgc_X6_33 C 10 dX6_skipBlanks_10 ?_
    refine x_bald C 13 (Nat.le_of_ble_eq_true rfl) (kc_1 V _) dX6_skipBlanks_13 (fun _ => ?_)
    refine x_bipush C 14 dX6_skipBlanks_14 kb_9 ?_
    have hJ52 : ∀ (σ_52 : Wd), Y K (Zc V) (M_X6_skipBlanks_J52 σ_52 v2) E0 σ_52 52 [(0, .ref (zA (Zc V) 6)), (1, .ref (zA (Zc V) 1)), (2, .int v2)] [] := by
      intro σ_52
      unfold M_X6_skipBlanks_J52
      refine x_aload_n C 52 0 dX6_skipBlanks_52 rfl ?_
      refine x_dup C 53 dX6_skipBlanks_53 rfl ?_
      refine fgc_X6_33 C 54 dX6_skipBlanks_54 ?_
      refine x_iconst C 57 dX6_skipBlanks_57 ki_1 ?_
      refine x_iadd C 58 dX6_skipBlanks_58 ?_
      refine fpc_X6_33 C 59 dX6_skipBlanks_59 (fun s_59 => ?_)
      refine x_goto C 62 0 dX6_skipBlanks_62 (by decide) ?_
      exact x_back s_59 (hb0 s_59)
    refine x_icmp_eq C 16 52 dX6_skipBlanks_16 (by decide) (fun _ => ?_) (fun _ => ?_)
    · exact hJ52 _
    · refine x_aload_n C 19 1 dX6_skipBlanks_19 rfl ?_
      refine x_aload_n C 20 0 dX6_skipBlanks_20 rfl ?_
      refine fgc_X6_33 C 21 dX6_skipBlanks_21 ?_
      refine x_bald C 24 (Nat.le_of_ble_eq_true rfl) (kc_1 V _) dX6_skipBlanks_24 (fun _ => ?_)
      refine x_bipush C 25 dX6_skipBlanks_25 kb_10 ?_
      refine x_icmp_eq C 27 52 dX6_skipBlanks_27 (by decide) (fun _ => ?_) (fun _ => ?_)
      · exact hJ52 _
      · refine x_aload_n C 30 1 dX6_skipBlanks_30 rfl ?_
        refine x_aload_n C 31 0 dX6_skipBlanks_31 rfl ?_
        refine fgc_X6_33 C 32 dX6_skipBlanks_32 ?_
        refine x_bald C 35 (Nat.le_of_ble_eq_true rfl) (kc_1 V _) dX6_skipBlanks_35 (fun _ => ?_)
        refine x_bipush C 36 dX6_skipBlanks_36 kb_13 ?_
        refine x_icmp_eq C 38 52 dX6_skipBlanks_38 (by decide) (fun _ => ?_) (fun _ => ?_)
        · exact hJ52 _
        · refine x_aload_n C 41 1 dX6_skipBlanks_41 rfl ?_
          refine x_aload_n C 42 0 dX6_skipBlanks_42 rfl ?_
          refine fgc_X6_33 C 43 dX6_skipBlanks_43 ?_
          refine x_bald C 46 (Nat.le_of_ble_eq_true rfl) (kc_1 V _) dX6_skipBlanks_46 (fun _ => ?_)
          refine x_bipush C 47 dX6_skipBlanks_47 kb_32 ?_
          refine x_icmp_ne C 49 65 dX6_skipBlanks_49 (by decide) (fun _ => ?_) (fun _ => ?_)
          · refine x_ex1 hx0 s_0 ?_
            exact x_vret C R 65 dX6_skipBlanks_65
          · exact hJ52 _
def M_X6_isLetter (v0 : Int32) : Option Int32 :=
  if v0 < (97 : Int32) then (some (0 : Int32)) else (if (122 : Int32) < v0 then (some (0 : Int32)) else (some (1 : Int32)))
set_option maxRecDepth 100000 in
set_option maxHeartbeats 4000000 in
theorem c_X6_isLetter (V : Ct_V) (l : Launch) (σ : Wd) (v0 : Int32) {r : Int32} (h : M_X6_isLetter v0 = some r) : Ct l (Zc V) yX6_isLetter cX6_isLetter 1 (some .boolean) 0 0 [.int v0] σ (some (.int r)) σ := by
  refine Ct_intro (own := RX6) zc_ok (by decide +kernel) rfl (Nat.le_of_ble_eq_true rfl) [(0, .int v0)] rfl (fun K C R hKl hnL => ?_)
  have hN := nl_of hnL
  subst hKl
  refine Y_end h ?_
  unfold M_X6_isLetter
  refine x_iload_n C 0 0 dX6_isLetter_0 rfl ?_
  refine x_bipush C 1 dX6_isLetter_1 kb_97 ?_
  refine x_icmp_lt C 3 16 dX6_isLetter_3 (by decide) (fun _ => ?_) (fun _ => ?_)
  · refine x_iconst C 16 dX6_isLetter_16 ki_0 ?_
    exact x_zret1 C R 17 (zb_nar (r := (0 : Int32)) (Or.inl rfl)) dX6_isLetter_17
  · refine x_iload_n C 6 0 dX6_isLetter_6 rfl ?_
    refine x_bipush C 7 dX6_isLetter_7 kb_122 ?_
    refine x_icmp_gt C 9 16 dX6_isLetter_9 (by decide) (fun _ => ?_) (fun _ => ?_)
    · refine x_iconst C 16 dX6_isLetter_16 ki_0 ?_
      exact x_zret1 C R 17 (zb_nar (r := (0 : Int32)) (Or.inl rfl)) dX6_isLetter_17
    · refine x_iconst C 12 dX6_isLetter_12 ki_1 ?_
      refine x_goto C 13 17 dX6_isLetter_13 (by decide) ?_
      exact x_zret1 C R 17 (zb_nar (r := (1 : Int32)) (Or.inr rfl)) dX6_isLetter_17
def M_X6_takeWord_L95 (v4 : Int64) (v6 : Int32) (σ : Wd) : Option ((Int32 × Wd) ⊕ (Wd)) :=
  if (11 : Int32) ≤ v6 then (some (.inr σ)) else (chk (ib (gI σ 6 3) 402) (if (gI σ 7 (ix (gI σ 6 3))) ≠ (2 : Int32) then (some (.inr σ)) else (chk (ib v6 11) (if (lg_cmp (wdF (ix v6)) v4) ≠ 0 then (lt (v6 + (1 : Int32)) fun v6_143 => some (.inl (v6_143, σ))) else (chk (ib (gI σ 6 3) 402) (lt (uI σ 7 (ix (gI σ 6 3)) ((100 : Int32) + v6)) fun s_142 => lt (v6 + (1 : Int32)) fun v6_143 => some (.inl (v6_143, s_142))))))))
def M_X6_takeWord_J91 (σ : Wd) (v4 : Int64) (t0 : Int32) (t1 : Int32) : Option Wd :=
  chk (ib t1 402) (lt (uI σ 7 (ix t1) t0) fun s_91 => bnd1 (iter (fun s : Int32 × Wd => M_X6_takeWord_L95 v4 s.1 s.2) FU ((0 : Int32), s_91)) (un1 fun sx_95 => (some sx_95)))
def M_X6_takeWord_J56 (σ : Wd) (v3 : Int32) (v4 : Int64) : Option Wd :=
  chk (ib (gI σ 6 3) 402) (lt (uL σ 9 (ix (gI σ 6 3)) v4) fun s_66 => if ((gI s_66 6 5) - v3) ≤ (8 : Int32) then (M_X6_takeWord_J91 s_66 v4 (2 : Int32) (gI s_66 6 3)) else (M_X6_takeWord_J91 s_66 v4 (1 : Int32) (gI s_66 6 3)))
def M_X6_takeWord_L8 (v2 : Int32) (v3 : Int32) (v4 : Int64) (σ : Wd) : Option ((Int64 × Wd) ⊕ (Int64 × Wd)) :=
  if v2 ≤ (gI σ 6 5) then (some (.inr (v4, σ))) else (chk (ib (gI σ 6 5) 2000) (bnd1 (M_X6_isLetter (gI σ 1 (ix (gI σ 6 5)))) fun r22 => if r22 = 0 then (some (.inr (v4, σ))) else (chk (ib (gI σ 6 5) 2000) (lt ((v4 <<< ((8 : Int32).toInt64 &&& 63)) ||| (gI σ 1 (ix (gI σ 6 5))).toInt64) fun v4_41 => lt (uI σ 6 5 ((gI σ 6 5) + (1 : Int32))) fun s_50 => some (.inl (v4_41, s_50))))))
def M_X6_takeWord (σ : Wd) (v2 : Int32) : Option Wd :=
  lt (gI σ 6 5) fun v3_4 => bnd1 (iter (fun s : Int64 × Wd => M_X6_takeWord_L8 v2 v3_4 s.1 s.2) FU ((0 : Int64), σ)) (un2 fun x4_8 sx_8 => (M_X6_takeWord_J56 sx_8 v3_4 x4_8))
set_option maxRecDepth 100000 in
set_option maxHeartbeats 4000000 in
theorem c_X6_takeWord (V : Ct_V) (l : Launch) (σ : Wd) (v2 : Int32) {σ2 : Wd} (h : M_X6_takeWord σ v2 = some σ2) : Ct l (Zc V) yX6_takeWord cX6_takeWord 7 none 1 20 [.ref (zA (Zc V) 6), .ref (zA (Zc V) 1), .int v2] σ none σ2 := by
  refine Ct_intro (own := RX6) zc_ok (by decide +kernel) rfl (Nat.le_of_ble_eq_true rfl) [(0, .ref (zA (Zc V) 6)), (1, .ref (zA (Zc V) 1)), (2, .int v2)] rfl (fun K C R hKl hnL => ?_)
  have hN := nl_of hnL
  subst hKl
  refine Y_end h ?_
  unfold M_X6_takeWord
  refine x_aload_n C 0 0 dX6_takeWord_0 rfl ?_
  refine fgc_X6_33 C 1 dX6_takeWord_1 ?_
  refine x_istore_nt C 4 (fun v3_4 => [(3, .int v3_4), (0, .ref (zA (Zc V) 6)), (1, .ref (zA (Zc V) 1)), (2, .int v2)]) dX6_takeWord_4 rfl (hN _ (Nat.le_of_ble_eq_true rfl)) (fun _ => rfl) (fun v3_4 => ?_)
  refine x_lconst C 5 dX6_takeWord_5 kl_0 ?_
  refine x_lstore C 6 (L' := [(4, .long (0 : Int64)), (3, .int v3_4), (0, .ref (zA (Zc V) 6)), (1, .ref (zA (Zc V) 1)), (2, .int v2)]) dX6_takeWord_6 (hN _ (Nat.le_of_ble_eq_true rfl)) rfl ?_
  have hJ56 : ∀ (σ_56 : Wd) (v3_56 : Int32) (v4_56 : Int64), Y K (Zc V) (M_X6_takeWord_J56 σ_56 v3_56 v4_56) (fun q => q = σ2) σ_56 56 [(0, .ref (zA (Zc V) 6)), (3, .int v3_56), (4, .long v4_56)] [] := by
    intro σ_56 v3_56 v4_56
    unfold M_X6_takeWord_J56
    refine x_aload_n C 56 0 dX6_takeWord_56 rfl ?_
    refine fgc_X6_16 C 57 dX6_takeWord_57 ?_
    refine x_aload_n C 60 0 dX6_takeWord_60 rfl ?_
    refine fgc_X6_26 C 61 dX6_takeWord_61 ?_
    refine x_lload C 64 2 dX6_takeWord_64 rfl ?_
    refine x_last C 66 (Nat.le_of_ble_eq_true rfl) (kc_9 V) dX6_takeWord_66 (fun _ s_66 => ?_)
    refine x_aload_n C 67 0 dX6_takeWord_67 rfl ?_
    refine fgc_X6_9 C 68 dX6_takeWord_68 ?_
    refine x_aload_n C 71 0 dX6_takeWord_71 rfl ?_
    refine fgc_X6_26 C 72 dX6_takeWord_72 ?_
    refine x_aload_n C 75 0 dX6_takeWord_75 rfl ?_
    refine fgc_X6_33 C 76 dX6_takeWord_76 ?_
    refine x_iload_n C 79 1 dX6_takeWord_79 rfl ?_
    refine x_isub C 80 dX6_takeWord_80 ?_
    refine x_bipush C 81 dX6_takeWord_81 kb_8 ?_
    have hJ91 : ∀ (σ_91 : Wd) (v4_91 : Int64) (t0_91 : Int32) (t1_91 : Int32), Y K (Zc V) (M_X6_takeWord_J91 σ_91 v4_91 t0_91 t1_91) (fun q => q = σ2) σ_91 91 [(0, .ref (zA (Zc V) 6)), (4, .long v4_91)] [.int t0_91, .int t1_91, .ref (zA (Zc V) 7)] := by
      intro σ_91 v4_91 t0_91 t1_91
      unfold M_X6_takeWord_J91
      refine x_iast C 91 (Nat.le_of_ble_eq_true rfl) (kc_7 V) dX6_takeWord_91 (fun _ s_91 => ?_)
      refine x_iconst C 92 dX6_takeWord_92 ki_0 ?_
      refine x_istore C 93 (L' := [(6, .int (0 : Int32)), (0, .ref (zA (Zc V) 6)), (4, .long v4_91)]) dX6_takeWord_93 (hN _ (Nat.le_of_ble_eq_true rfl)) rfl ?_
      refine Y_sub [1, 2, 0] rfl ?_
      refine x_loop 95 (fun s : Int32 × Wd => s.2) (fun s : Int32 × Wd => [(0, .ref (zA (Zc V) 6)), (4, .long v4_91), (6, .int s.1)]) (fun E95 hb95 hx95 s => ?_) FU ((0 : Int32), s_91)
      obtain ⟨v6_95, s_95⟩ := s
      show Y K (Zc V) (M_X6_takeWord_L95 v4_91 v6_95 s_95) E95 s_95 95 [(0, .ref (zA (Zc V) 6)), (4, .long v4_91), (6, .int v6_95)] []
      unfold M_X6_takeWord_L95
      refine x_iload C 95 2 dX6_takeWord_95 rfl ?_
      refine x_wdget C 97 dX6_takeWord_97 ?_
      refine x_wdlen C 100 dX6_takeWord_100 ?_
      refine x_icmp_ge C 101 149 dX6_takeWord_101 (by decide) (fun _ => ?_) (fun _ => ?_)
      · refine x_ex1 hx95 s_95 ?_
        exact x_vret C R 149 dX6_takeWord_149
      · refine x_aload_n C 104 0 dX6_takeWord_104 rfl ?_
        refine fgc_X6_9 C 105 dX6_takeWord_105 ?_
        refine x_aload_n C 108 0 dX6_takeWord_108 rfl ?_
        refine fgc_X6_26 C 109 dX6_takeWord_109 ?_
        refine x_iald C 112 (Nat.le_of_ble_eq_true rfl) (kc_7 V _) dX6_takeWord_112 (fun _ => ?_)
        refine x_iconst C 113 dX6_takeWord_113 ki_2 ?_
        refine x_icmp_ne C 114 149 dX6_takeWord_114 (by decide) (fun _ => ?_) (fun _ => ?_)
        · refine x_ex1 hx95 s_95 ?_
          exact x_vret C R 149 dX6_takeWord_149
        · refine x_wdget C 117 dX6_takeWord_117 ?_
          refine x_iload C 120 2 dX6_takeWord_120 rfl ?_
          refine x_wdld C 122 dX6_takeWord_122 (fun _ => ?_)
          refine x_lload C 123 1 dX6_takeWord_123 rfl ?_
          refine x_lcmp C 125 dX6_takeWord_125 ?_
          refine x_if_ne C 126 143 dX6_takeWord_126 (by decide) (fun _ => ?_) (fun _ => ?_)
          · refine x_iinct C 143 2 (1 : Int32) (fun v6_143 => [(6, .int v6_143), (0, .ref (zA (Zc V) 6)), (4, .long v4_91)]) dX6_takeWord_143 rfl ki_1 (hN _ (Nat.le_of_ble_eq_true rfl)) (fun _ => rfl) (fun v6_143 => ?_)
            refine x_goto C 146 95 dX6_takeWord_146 (by decide) ?_
            refine Y_sub [1, 2, 0] rfl ?_
            exact x_back (v6_143, s_95) (hb95 (v6_143, s_95))
          · refine x_aload_n C 129 0 dX6_takeWord_129 rfl ?_
            refine fgc_X6_9 C 130 dX6_takeWord_130 ?_
            refine x_aload_n C 133 0 dX6_takeWord_133 rfl ?_
            refine fgc_X6_26 C 134 dX6_takeWord_134 ?_
            refine x_bipush C 137 dX6_takeWord_137 kb_100 ?_
            refine x_iload C 139 2 dX6_takeWord_139 rfl ?_
            refine x_iadd C 141 dX6_takeWord_141 ?_
            refine x_iast C 142 (Nat.le_of_ble_eq_true rfl) (kc_7 V) dX6_takeWord_142 (fun _ s_142 => ?_)
            refine x_iinct C 143 2 (1 : Int32) (fun v6_143 => [(6, .int v6_143), (0, .ref (zA (Zc V) 6)), (4, .long v4_91)]) dX6_takeWord_143 rfl ki_1 (hN _ (Nat.le_of_ble_eq_true rfl)) (fun _ => rfl) (fun v6_143 => ?_)
            refine x_goto C 146 95 dX6_takeWord_146 (by decide) ?_
            refine Y_sub [1, 2, 0] rfl ?_
            exact x_back (v6_143, s_142) (hb95 (v6_143, s_142))
    refine x_icmp_le C 83 90 dX6_takeWord_83 (by decide) (fun _ => ?_) (fun _ => ?_)
    · refine x_iconst C 90 dX6_takeWord_90 ki_2 ?_
      refine Y_sub [0, 2] rfl ?_
      exact hJ91 _ _ _ _
    · refine x_iconst C 86 dX6_takeWord_86 ki_1 ?_
      refine x_goto C 87 91 dX6_takeWord_87 (by decide) ?_
      refine Y_sub [0, 2] rfl ?_
      exact hJ91 _ _ _ _
  refine Y_sub [2, 3, 4, 1, 0] rfl ?_
  refine x_loop 8 (fun s : Int64 × Wd => s.2) (fun s : Int64 × Wd => [(0, .ref (zA (Zc V) 6)), (1, .ref (zA (Zc V) 1)), (2, .int v2), (3, .int v3_4), (4, .long s.1)]) (fun E8 hb8 hx8 s => ?_) FU ((0 : Int64), σ)
  obtain ⟨v4_8, s_8⟩ := s
  show Y K (Zc V) (M_X6_takeWord_L8 v2 v3_4 v4_8 s_8) E8 s_8 8 [(0, .ref (zA (Zc V) 6)), (1, .ref (zA (Zc V) 1)), (2, .int v2), (3, .int v3_4), (4, .long v4_8)] []
  unfold M_X6_takeWord_L8
  refine x_aload_n C 8 0 dX6_takeWord_8 rfl ?_
  refine fgc_X6_33 C 9 dX6_takeWord_9 ?_
  refine x_iload_n C 12 2 dX6_takeWord_12 rfl ?_
  refine x_icmp_ge C 13 56 dX6_takeWord_13 (by decide) (fun _ => ?_) (fun _ => ?_)
  · refine x_ex2 hx8 v4_8 s_8 ?_
    refine Y_sub [0, 3, 4] rfl ?_
    exact hJ56 _ _ _
  · refine x_aload_n C 16 1 dX6_takeWord_16 rfl ?_
    refine x_aload_n C 17 0 dX6_takeWord_17 rfl ?_
    refine fgc_X6_33 C 18 dX6_takeWord_18 ?_
    refine x_bald C 21 (Nat.le_of_ble_eq_true rfl) (kc_1 V _) dX6_takeWord_21 (fun _ => ?_)
    refine Y_bnd1 (fun r22 h22 => ?_)
    refine x_callSi C 22 [.int (gI s_8 1 (ix (gI s_8 6 5)))] [] rfl tw_424 ms_X6_isLetter (Nat.le_of_ble_eq_true rfl) (Nat.le_of_ble_eq_true rfl) (Nat.le_of_ble_eq_true rfl) dX6_takeWord_22 (c_X6_isLetter V _ _ _ h22) ?_
    refine x_if_eq C 25 56 dX6_takeWord_25 (by decide) (fun _ => ?_) (fun _ => ?_)
    · refine x_ex2 hx8 v4_8 s_8 ?_
      refine Y_sub [0, 3, 4] rfl ?_
      exact hJ56 _ _ _
    · refine x_lload C 28 4 dX6_takeWord_28 rfl ?_
      refine x_bipush C 30 dX6_takeWord_30 kb_8 ?_
      refine x_lshl C 32 dX6_takeWord_32 ?_
      refine x_aload_n C 33 1 dX6_takeWord_33 rfl ?_
      refine x_aload_n C 34 0 dX6_takeWord_34 rfl ?_
      refine fgc_X6_33 C 35 dX6_takeWord_35 ?_
      refine x_bald C 38 (Nat.le_of_ble_eq_true rfl) (kc_1 V _) dX6_takeWord_38 (fun _ => ?_)
      refine x_i2l C 39 dX6_takeWord_39 ?_
      refine x_lor C 40 dX6_takeWord_40 ?_
      refine x_lstoret C 41 (fun v4_41 => [(4, .long v4_41), (0, .ref (zA (Zc V) 6)), (1, .ref (zA (Zc V) 1)), (2, .int v2), (3, .int v3_4)]) dX6_takeWord_41 (hN _ (Nat.le_of_ble_eq_true rfl)) (fun _ => rfl) (fun v4_41 => ?_)
      refine x_aload_n C 43 1 dX6_takeWord_43 rfl ?_
      refine x_dup C 44 dX6_takeWord_44 rfl ?_
      refine fgc_X6_33 C 45 dX6_takeWord_45 ?_
      refine x_iconst C 48 dX6_takeWord_48 ki_1 ?_
      refine x_iadd C 49 dX6_takeWord_49 ?_
      refine fpc_X6_33 C 50 dX6_takeWord_50 (fun s_50 => ?_)
      refine x_goto C 53 8 dX6_takeWord_53 (by decide) ?_
      refine Y_sub [1, 2, 3, 4, 0] rfl ?_
      exact x_back (v4_41, s_50) (hb8 (v4_41, s_50))
def M_X6_isDigit (v0 : Int32) : Option Int32 :=
  if v0 < (48 : Int32) then (some (0 : Int32)) else (if (57 : Int32) < v0 then (some (0 : Int32)) else (some (1 : Int32)))
set_option maxRecDepth 100000 in
set_option maxHeartbeats 4000000 in
theorem c_X6_isDigit (V : Ct_V) (l : Launch) (σ : Wd) (v0 : Int32) {r : Int32} (h : M_X6_isDigit v0 = some r) : Ct l (Zc V) yX6_isDigit cX6_isDigit 1 (some .boolean) 0 0 [.int v0] σ (some (.int r)) σ := by
  refine Ct_intro (own := RX6) zc_ok (by decide +kernel) rfl (Nat.le_of_ble_eq_true rfl) [(0, .int v0)] rfl (fun K C R hKl hnL => ?_)
  have hN := nl_of hnL
  subst hKl
  refine Y_end h ?_
  unfold M_X6_isDigit
  refine x_iload_n C 0 0 dX6_isDigit_0 rfl ?_
  refine x_bipush C 1 dX6_isDigit_1 kb_48 ?_
  refine x_icmp_lt C 3 16 dX6_isDigit_3 (by decide) (fun _ => ?_) (fun _ => ?_)
  · refine x_iconst C 16 dX6_isDigit_16 ki_0 ?_
    exact x_zret1 C R 17 (zb_nar (r := (0 : Int32)) (Or.inl rfl)) dX6_isDigit_17
  · refine x_iload_n C 6 0 dX6_isDigit_6 rfl ?_
    refine x_bipush C 7 dX6_isDigit_7 kb_57 ?_
    refine x_icmp_gt C 9 16 dX6_isDigit_9 (by decide) (fun _ => ?_) (fun _ => ?_)
    · refine x_iconst C 16 dX6_isDigit_16 ki_0 ?_
      exact x_zret1 C R 17 (zb_nar (r := (0 : Int32)) (Or.inl rfl)) dX6_isDigit_17
    · refine x_iconst C 12 dX6_isDigit_12 ki_1 ?_
      refine x_goto C 13 17 dX6_isDigit_13 (by decide) ?_
      exact x_zret1 C R 17 (zb_nar (r := (1 : Int32)) (Or.inr rfl)) dX6_isDigit_17
def M_X6_takeInt_J93 (σ : Wd) (t0 : Int32) (t1 : Int32) : Option Wd :=
  chk (ib t1 402) (lt (uI σ 7 (ix t1) t0) fun s_93 => some s_93)
def M_X6_takeInt_J58 (σ : Wd) (v3 : Int32) (v4 : Int32) : Option Wd :=
  chk (ib (gI σ 6 3) 402) (lt (uL σ 9 (ix (gI σ 6 3)) v4.toInt64) fun s_69 => if ((gI s_69 6 5) - v3) ≤ (4 : Int32) then (M_X6_takeInt_J93 s_69 (3 : Int32) (gI s_69 6 3)) else (M_X6_takeInt_J93 s_69 (1 : Int32) (gI s_69 6 3)))
def M_X6_takeInt_L8 (v2 : Int32) (v3 : Int32) (v4 : Int32) (σ : Wd) : Option ((Int32 × Wd) ⊕ (Int32 × Wd)) :=
  if v2 ≤ (gI σ 6 5) then (some (.inr (v4, σ))) else (chk (ib (gI σ 6 5) 2000) (bnd1 (M_X6_isDigit (gI σ 1 (ix (gI σ 6 5)))) fun r22 => if r22 = 0 then (some (.inr (v4, σ))) else (chk (ib (gI σ 6 5) 2000) (lt (((v4 * (10 : Int32)) + (gI σ 1 (ix (gI σ 6 5)))) - (48 : Int32)) fun v4_43 => lt (uI σ 6 5 ((gI σ 6 5) + (1 : Int32))) fun s_52 => some (.inl (v4_43, s_52))))))
def M_X6_takeInt (σ : Wd) (v2 : Int32) : Option Wd :=
  lt (gI σ 6 5) fun v3_4 => bnd1 (iter (fun s : Int32 × Wd => M_X6_takeInt_L8 v2 v3_4 s.1 s.2) FU ((0 : Int32), σ)) (un2 fun x4_8 sx_8 => (M_X6_takeInt_J58 sx_8 v3_4 x4_8))
set_option maxRecDepth 100000 in
set_option maxHeartbeats 4000000 in
theorem c_X6_takeInt (V : Ct_V) (l : Launch) (σ : Wd) (v2 : Int32) {σ2 : Wd} (h : M_X6_takeInt σ v2 = some σ2) : Ct l (Zc V) yX6_takeInt cX6_takeInt 5 none 1 20 [.ref (zA (Zc V) 6), .ref (zA (Zc V) 1), .int v2] σ none σ2 := by
  refine Ct_intro (own := RX6) zc_ok (by decide +kernel) rfl (Nat.le_of_ble_eq_true rfl) [(0, .ref (zA (Zc V) 6)), (1, .ref (zA (Zc V) 1)), (2, .int v2)] rfl (fun K C R hKl hnL => ?_)
  have hN := nl_of hnL
  subst hKl
  refine Y_end h ?_
  unfold M_X6_takeInt
  refine x_aload_n C 0 0 dX6_takeInt_0 rfl ?_
  refine fgc_X6_33 C 1 dX6_takeInt_1 ?_
  refine x_istore_nt C 4 (fun v3_4 => [(3, .int v3_4), (0, .ref (zA (Zc V) 6)), (1, .ref (zA (Zc V) 1)), (2, .int v2)]) dX6_takeInt_4 rfl (hN _ (Nat.le_of_ble_eq_true rfl)) (fun _ => rfl) (fun v3_4 => ?_)
  refine x_iconst C 5 dX6_takeInt_5 ki_0 ?_
  refine x_istore C 6 (L' := [(4, .int (0 : Int32)), (3, .int v3_4), (0, .ref (zA (Zc V) 6)), (1, .ref (zA (Zc V) 1)), (2, .int v2)]) dX6_takeInt_6 (hN _ (Nat.le_of_ble_eq_true rfl)) rfl ?_
  have hJ58 : ∀ (σ_58 : Wd) (v3_58 : Int32) (v4_58 : Int32), Y K (Zc V) (M_X6_takeInt_J58 σ_58 v3_58 v4_58) (fun q => q = σ2) σ_58 58 [(0, .ref (zA (Zc V) 6)), (3, .int v3_58), (4, .int v4_58)] [] := by
    intro σ_58 v3_58 v4_58
    unfold M_X6_takeInt_J58
    refine x_aload_n C 58 0 dX6_takeInt_58 rfl ?_
    refine fgc_X6_16 C 59 dX6_takeInt_59 ?_
    refine x_aload_n C 62 0 dX6_takeInt_62 rfl ?_
    refine fgc_X6_26 C 63 dX6_takeInt_63 ?_
    refine x_iload C 66 2 dX6_takeInt_66 rfl ?_
    refine x_i2l C 68 dX6_takeInt_68 ?_
    refine x_last C 69 (Nat.le_of_ble_eq_true rfl) (kc_9 V) dX6_takeInt_69 (fun _ s_69 => ?_)
    refine x_aload_n C 70 0 dX6_takeInt_70 rfl ?_
    refine fgc_X6_9 C 71 dX6_takeInt_71 ?_
    refine x_aload_n C 74 0 dX6_takeInt_74 rfl ?_
    refine fgc_X6_26 C 75 dX6_takeInt_75 ?_
    refine x_aload_n C 78 0 dX6_takeInt_78 rfl ?_
    refine fgc_X6_33 C 79 dX6_takeInt_79 ?_
    refine x_iload_n C 82 1 dX6_takeInt_82 rfl ?_
    refine x_isub C 83 dX6_takeInt_83 ?_
    refine x_iconst C 84 dX6_takeInt_84 ki_4 ?_
    have hJ93 : ∀ (σ_93 : Wd) (t0_93 : Int32) (t1_93 : Int32), Y K (Zc V) (M_X6_takeInt_J93 σ_93 t0_93 t1_93) (fun q => q = σ2) σ_93 93 [] [.int t0_93, .int t1_93, .ref (zA (Zc V) 7)] := by
      intro σ_93 t0_93 t1_93
      unfold M_X6_takeInt_J93
      refine x_iast C 93 (Nat.le_of_ble_eq_true rfl) (kc_7 V) dX6_takeInt_93 (fun _ s_93 => ?_)
      exact x_vret C R 94 dX6_takeInt_94
    refine x_icmp_le C 85 92 dX6_takeInt_85 (by decide) (fun _ => ?_) (fun _ => ?_)
    · refine x_iconst C 92 dX6_takeInt_92 ki_3 ?_
      refine Y_sub [] rfl ?_
      exact hJ93 _ _ _
    · refine x_iconst C 88 dX6_takeInt_88 ki_1 ?_
      refine x_goto C 89 93 dX6_takeInt_89 (by decide) ?_
      refine Y_sub [] rfl ?_
      exact hJ93 _ _ _
  refine Y_sub [2, 3, 4, 1, 0] rfl ?_
  refine x_loop 8 (fun s : Int32 × Wd => s.2) (fun s : Int32 × Wd => [(0, .ref (zA (Zc V) 6)), (1, .ref (zA (Zc V) 1)), (2, .int v2), (3, .int v3_4), (4, .int s.1)]) (fun E8 hb8 hx8 s => ?_) FU ((0 : Int32), σ)
  obtain ⟨v4_8, s_8⟩ := s
  show Y K (Zc V) (M_X6_takeInt_L8 v2 v3_4 v4_8 s_8) E8 s_8 8 [(0, .ref (zA (Zc V) 6)), (1, .ref (zA (Zc V) 1)), (2, .int v2), (3, .int v3_4), (4, .int v4_8)] []
  unfold M_X6_takeInt_L8
  refine x_aload_n C 8 0 dX6_takeInt_8 rfl ?_
  refine fgc_X6_33 C 9 dX6_takeInt_9 ?_
  refine x_iload_n C 12 2 dX6_takeInt_12 rfl ?_
  refine x_icmp_ge C 13 58 dX6_takeInt_13 (by decide) (fun _ => ?_) (fun _ => ?_)
  · refine x_ex2 hx8 v4_8 s_8 ?_
    refine Y_sub [0, 3, 4] rfl ?_
    exact hJ58 _ _ _
  · refine x_aload_n C 16 1 dX6_takeInt_16 rfl ?_
    refine x_aload_n C 17 0 dX6_takeInt_17 rfl ?_
    refine fgc_X6_33 C 18 dX6_takeInt_18 ?_
    refine x_bald C 21 (Nat.le_of_ble_eq_true rfl) (kc_1 V _) dX6_takeInt_21 (fun _ => ?_)
    refine Y_bnd1 (fun r22 h22 => ?_)
    refine x_callSi C 22 [.int (gI s_8 1 (ix (gI s_8 6 5)))] [] rfl tw_433 ms_X6_isDigit (Nat.le_of_ble_eq_true rfl) (Nat.le_of_ble_eq_true rfl) (Nat.le_of_ble_eq_true rfl) dX6_takeInt_22 (c_X6_isDigit V _ _ _ h22) ?_
    refine x_if_eq C 25 58 dX6_takeInt_25 (by decide) (fun _ => ?_) (fun _ => ?_)
    · refine x_ex2 hx8 v4_8 s_8 ?_
      refine Y_sub [0, 3, 4] rfl ?_
      exact hJ58 _ _ _
    · refine x_iload C 28 4 dX6_takeInt_28 rfl ?_
      refine x_bipush C 30 dX6_takeInt_30 kb_10 ?_
      refine x_imul C 32 dX6_takeInt_32 ?_
      refine x_aload_n C 33 1 dX6_takeInt_33 rfl ?_
      refine x_aload_n C 34 0 dX6_takeInt_34 rfl ?_
      refine fgc_X6_33 C 35 dX6_takeInt_35 ?_
      refine x_bald C 38 (Nat.le_of_ble_eq_true rfl) (kc_1 V _) dX6_takeInt_38 (fun _ => ?_)
      refine x_iadd C 39 dX6_takeInt_39 ?_
      refine x_bipush C 40 dX6_takeInt_40 kb_48 ?_
      refine x_isub C 42 dX6_takeInt_42 ?_
      refine x_istoret C 43 (fun v4_43 => [(4, .int v4_43), (0, .ref (zA (Zc V) 6)), (1, .ref (zA (Zc V) 1)), (2, .int v2), (3, .int v3_4)]) dX6_takeInt_43 (hN _ (Nat.le_of_ble_eq_true rfl)) (fun _ => rfl) (fun v4_43 => ?_)
      refine x_aload_n C 45 1 dX6_takeInt_45 rfl ?_
      refine x_dup C 46 dX6_takeInt_46 rfl ?_
      refine fgc_X6_33 C 47 dX6_takeInt_47 ?_
      refine x_iconst C 50 dX6_takeInt_50 ki_1 ?_
      refine x_iadd C 51 dX6_takeInt_51 ?_
      refine fpc_X6_33 C 52 dX6_takeInt_52 (fun s_52 => ?_)
      refine x_goto C 55 8 dX6_takeInt_55 (by decide) ?_
      refine Y_sub [1, 2, 3, 4, 0] rfl ?_
      exact x_back (v4_43, s_52) (hb8 (v4_43, s_52))
def M_J0_isLatin1_aae02 (σ : Wd) : Option Int32 :=
  if (1 : Int32) = 0 then (some (0 : Int32)) else (if (0 : Int32) ≠ 0 then (some (0 : Int32)) else (some (1 : Int32)))
set_option maxRecDepth 100000 in
set_option maxHeartbeats 4000000 in
theorem c_J0_isLatin1_aae02 (V : Ct_V) (l : Launch) (σ : Wd) {r : Int32} (h : M_J0_isLatin1_aae02 σ = some r) : Ct l (Zc V) yJ0_isLatin1_aae02 cJ0_isLatin1_aae02 1 (some .boolean) 0 0 [.ref (V.2.2.2 0)] σ (some (.int r)) σ := by
  refine Ct_intro (own := RJ0) zc_ok (by decide +kernel) rfl (Nat.le_of_ble_eq_true rfl) [(0, .ref (V.2.2.2 0))] rfl (fun K C R hKl hnL => ?_)
  have hN := nl_of hnL
  subst hKl
  refine Y_end h ?_
  unfold M_J0_isLatin1_aae02
  refine x_cpget C 0 dJ0_isLatin1_aae02_0 ?_
  refine x_if_eq C 3 17 dJ0_isLatin1_aae02_3 (by decide) (fun _ => ?_) (fun _ => ?_)
  · refine x_iconst C 17 dJ0_isLatin1_aae02_17 ki_0 ?_
    exact x_zret1 C R 18 (zb_nar (r := (0 : Int32)) (Or.inl rfl)) dJ0_isLatin1_aae02_18
  · refine x_aload_n C 6 0 dJ0_isLatin1_aae02_6 rfl ?_
    refine x_sgcod C 7 dJ0_isLatin1_aae02_7 ?_
    refine x_if_ne C 10 17 dJ0_isLatin1_aae02_10 (by decide) (fun _ => ?_) (fun _ => ?_)
    · refine x_iconst C 17 dJ0_isLatin1_aae02_17 ki_0 ?_
      exact x_zret1 C R 18 (zb_nar (r := (0 : Int32)) (Or.inl rfl)) dJ0_isLatin1_aae02_18
    · refine x_iconst C 13 dJ0_isLatin1_aae02_13 ki_1 ?_
      refine x_goto C 14 18 dJ0_isLatin1_aae02_14 (by decide) ?_
      exact x_zret1 C R 18 (zb_nar (r := (1 : Int32)) (Or.inr rfl)) dJ0_isLatin1_aae02_18
def M_J0_coder_7d493 (σ : Wd) : Option Int32 :=
  if (1 : Int32) = 0 then (chk (narrow .byte (.int (1 : Int32)) = .int (1 : Int32)) (some (1 : Int32))) else (chk (narrow .byte (.int (0 : Int32)) = .int (0 : Int32)) (some (0 : Int32)))
set_option maxRecDepth 100000 in
set_option maxHeartbeats 4000000 in
theorem c_J0_coder_7d493 (V : Ct_V) (l : Launch) (σ : Wd) {r : Int32} (h : M_J0_coder_7d493 σ = some r) : Ct l (Zc V) yJ0_coder_7d493 cJ0_coder_7d493 1 (some .byte) 0 0 [.ref (V.2.2.2 0)] σ (some (.int r)) σ := by
  refine Ct_intro (own := RJ0) zc_ok (by decide +kernel) rfl (Nat.le_of_ble_eq_true rfl) [(0, .ref (V.2.2.2 0))] rfl (fun K C R hKl hnL => ?_)
  have hN := nl_of hnL
  subst hKl
  refine Y_end h ?_
  unfold M_J0_coder_7d493
  refine x_cpget C 0 dJ0_coder_7d493_0 ?_
  refine x_if_eq C 3 13 dJ0_coder_7d493_3 (by decide) (fun _ => ?_) (fun _ => ?_)
  · refine x_iconst C 13 dJ0_coder_7d493_13 ki_1 ?_
    refine Y_chk (fun hzb => ?_)
    exact x_bret1 C R 14 hzb dJ0_coder_7d493_14
  · refine x_aload_n C 6 0 dJ0_coder_7d493_6 rfl ?_
    refine x_sgcod C 7 dJ0_coder_7d493_7 ?_
    refine x_goto C 10 14 dJ0_coder_7d493_10 (by decide) ?_
    refine Y_chk (fun hzb => ?_)
    exact x_bret1 C R 14 hzb dJ0_coder_7d493_14
def M_J0_length_8abf5 (σ : Wd) : Option Int32 :=
  bnd1 (M_J0_coder_7d493 σ) fun r6 => some ((9 : Int32) >>> (r6 &&& 31))
set_option maxRecDepth 100000 in
set_option maxHeartbeats 4000000 in
theorem c_J0_length_8abf5 (V : Ct_V) (l : Launch) (σ : Wd) {r : Int32} (h : M_J0_length_8abf5 σ = some r) : Ct l (Zc V) yJ0_length_8abf5 cJ0_length_8abf5 1 (some .int) 1 20 [.ref (V.2.2.2 0)] σ (some (.int r)) σ := by
  refine Ct_intro (own := RJ0) zc_ok (by decide +kernel) rfl (Nat.le_of_ble_eq_true rfl) [(0, .ref (V.2.2.2 0))] rfl (fun K C R hKl hnL => ?_)
  have hN := nl_of hnL
  subst hKl
  refine Y_end h ?_
  unfold M_J0_length_8abf5
  refine x_aload_n C 0 0 dJ0_length_8abf5_0 rfl ?_
  refine x_sgval C 1 dJ0_length_8abf5_1 ?_
  refine x_sglen C 4 dJ0_length_8abf5_4 ?_
  refine x_aload_n C 5 0 dJ0_length_8abf5_5 rfl ?_
  refine Y_bnd1 (fun r6 h6 => ?_)
  refine x_callTi C 6 [] [.int (9 : Int32)] rfl tw_459 mv_J0_coder_7d493 (Nat.le_of_ble_eq_true rfl) (Nat.le_of_ble_eq_true rfl) (Nat.le_of_ble_eq_true rfl) rfl dJ0_length_8abf5_6 (c_J0_coder_7d493 V _ _  h6) ?_
  refine x_ishr C 9 dJ0_length_8abf5_9 ?_
  exact x_iret1 C R 10 dJ0_length_8abf5_10
def M_J1_canEncode_9a6ad (v0 : Int32) : Option Int32 :=
  if v0 < 0 then (some (0 : Int32)) else (if (255 : Int32) < v0 then (some (0 : Int32)) else (some (1 : Int32)))
set_option maxRecDepth 100000 in
set_option maxHeartbeats 4000000 in
theorem c_J1_canEncode_9a6ad (V : Ct_V) (l : Launch) (σ : Wd) (v0 : Int32) {r : Int32} (h : M_J1_canEncode_9a6ad v0 = some r) : Ct l (Zc V) yJ1_canEncode_9a6ad cJ1_canEncode_9a6ad 1 (some .boolean) 0 0 [.int v0] σ (some (.int r)) σ := by
  refine Ct_intro (own := RJ1) zc_ok (by decide +kernel) rfl (Nat.le_of_ble_eq_true rfl) [(0, .int v0)] rfl (fun K C R hKl hnL => ?_)
  have hN := nl_of hnL
  subst hKl
  refine Y_end h ?_
  unfold M_J1_canEncode_9a6ad
  refine x_iload_n C 0 0 dJ1_canEncode_9a6ad_0 rfl ?_
  refine x_if_lt C 1 15 dJ1_canEncode_9a6ad_1 (by decide) (fun _ => ?_) (fun _ => ?_)
  · refine x_iconst C 15 dJ1_canEncode_9a6ad_15 ki_0 ?_
    exact x_zret1 C R 16 (zb_nar (r := (0 : Int32)) (Or.inl rfl)) dJ1_canEncode_9a6ad_16
  · refine x_iload_n C 4 0 dJ1_canEncode_9a6ad_4 rfl ?_
    refine x_sipush C 5 dJ1_canEncode_9a6ad_5 ks_255 ?_
    refine x_icmp_gt C 8 15 dJ1_canEncode_9a6ad_8 (by decide) (fun _ => ?_) (fun _ => ?_)
    · refine x_iconst C 15 dJ1_canEncode_9a6ad_15 ki_0 ?_
      exact x_zret1 C R 16 (zb_nar (r := (0 : Int32)) (Or.inl rfl)) dJ1_canEncode_9a6ad_16
    · refine x_iconst C 11 dJ1_canEncode_9a6ad_11 ki_1 ?_
      refine x_goto C 12 16 dJ1_canEncode_9a6ad_12 (by decide) ?_
      exact x_zret1 C R 16 (zb_nar (r := (1 : Int32)) (Or.inr rfl)) dJ1_canEncode_9a6ad_16
def M_J1_indexOfChar_4cfef_L7 (σ : Wd) (v3 : Int32) (v4 : Int32) (v5 : Int32) : Option ((Int32) ⊕ ((Unit) ⊕ Int32)) :=
  if v3 ≤ v5 then (some (.inr (.inl ()))) else (chk (ib v5 9) (if (sgF (ix v5)) ≠ v4 then (lt (v5 + (1 : Int32)) fun v5_25 => some (.inl v5_25)) else (some (.inr (.inr v5)))))
def M_J1_indexOfChar_4cfef (σ : Wd) (v1 : Int32) (v2 : Int32) (v3 : Int32) : Option Int32 :=
  bnd1 (iter (fun s : Int32 => M_J1_indexOfChar_4cfef_L7 σ v3 v1.toInt8.toInt32 s) FU v2) (sx (un0 (some (-1 : Int32))) (fun q => some q))
set_option maxRecDepth 100000 in
set_option maxHeartbeats 4000000 in
theorem c_J1_indexOfChar_4cfef (V : Ct_V) (l : Launch) (σ : Wd) (v1 : Int32) (v2 : Int32) (v3 : Int32) {r : Int32} (h : M_J1_indexOfChar_4cfef σ v1 v2 v3 = some r) : Ct l (Zc V) yJ1_indexOfChar_4cfef cJ1_indexOfChar_4cfef 6 (some .int) 0 0 [.ref (V.2.2.2 1), .int v1, .int v2, .int v3] σ (some (.int r)) σ := by
  refine Ct_intro (own := RJ1) zc_ok (by decide +kernel) rfl (Nat.le_of_ble_eq_true rfl) [(0, .ref (V.2.2.2 1)), (1, .int v1), (2, .int v2), (3, .int v3)] rfl (fun K C R hKl hnL => ?_)
  have hN := nl_of hnL
  subst hKl
  refine Y_end h ?_
  unfold M_J1_indexOfChar_4cfef
  refine x_iload_n C 0 1 dJ1_indexOfChar_4cfef_0 rfl ?_
  refine x_i2b C 1 dJ1_indexOfChar_4cfef_1 ?_
  refine x_istore C 2 (L' := [(4, .int v1.toInt8.toInt32), (0, .ref (V.2.2.2 1)), (1, .int v1), (2, .int v2), (3, .int v3)]) dJ1_indexOfChar_4cfef_2 (hN _ (Nat.le_of_ble_eq_true rfl)) rfl ?_
  refine x_iload_n C 4 3 dJ1_indexOfChar_4cfef_4 rfl ?_
  refine x_istore C 5 (L' := [(5, .int v2), (4, .int v1.toInt8.toInt32), (0, .ref (V.2.2.2 1)), (1, .int v1), (2, .int v2), (3, .int v3)]) dJ1_indexOfChar_4cfef_5 (hN _ (Nat.le_of_ble_eq_true rfl)) rfl ?_
  refine Y_sub [2, 5, 1, 0] rfl ?_
  refine x_loop 7 (fun s : Int32 => σ) (fun s : Int32 => [(0, .ref (V.2.2.2 1)), (3, .int v3), (4, .int v1.toInt8.toInt32), (5, .int s)]) (fun E7 hb7 hx7 s => ?_) FU v2
  obtain ⟨v5_7, rfl⟩ : ∃ z, z = s := ⟨s, rfl⟩
  show Y K (Zc V) (M_J1_indexOfChar_4cfef_L7 σ v3 v1.toInt8.toInt32 v5_7) E7 σ 7 [(0, .ref (V.2.2.2 1)), (3, .int v3), (4, .int v1.toInt8.toInt32), (5, .int v5_7)] []
  unfold M_J1_indexOfChar_4cfef_L7
  refine x_iload C 7 3 dJ1_indexOfChar_4cfef_7 rfl ?_
  refine x_iload_n C 9 1 dJ1_indexOfChar_4cfef_9 rfl ?_
  refine x_icmp_ge C 10 31 dJ1_indexOfChar_4cfef_10 (by decide) (fun _ => ?_) (fun _ => ?_)
  · refine x_exl0 hx7 ?_
    refine x_iconst C 31 dJ1_indexOfChar_4cfef_31 ki_m1 ?_
    exact x_iret1 C R 32 dJ1_indexOfChar_4cfef_32
  · refine x_aload_n C 13 0 dJ1_indexOfChar_4cfef_13 rfl ?_
    refine x_iload C 14 3 dJ1_indexOfChar_4cfef_14 rfl ?_
    refine x_sgld C 16 dJ1_indexOfChar_4cfef_16 (fun _ => ?_)
    refine x_iload C 17 2 dJ1_indexOfChar_4cfef_17 rfl ?_
    refine x_icmp_ne C 19 25 dJ1_indexOfChar_4cfef_19 (by decide) (fun _ => ?_) (fun _ => ?_)
    · refine x_iinct C 25 3 (1 : Int32) (fun v5_25 => [(5, .int v5_25), (0, .ref (V.2.2.2 1)), (3, .int v3), (4, .int v1.toInt8.toInt32)]) dJ1_indexOfChar_4cfef_25 rfl ki_1 (hN _ (Nat.le_of_ble_eq_true rfl)) (fun _ => rfl) (fun v5_25 => ?_)
      refine x_goto C 28 7 dJ1_indexOfChar_4cfef_28 (by decide) ?_
      refine Y_sub [1, 2, 3, 0] rfl ?_
      exact x_back v5_25 (hb7 v5_25)
    · refine x_iload C 22 3 dJ1_indexOfChar_4cfef_22 rfl ?_
      refine x_exr hx7 _ ?_
      exact x_iret1 C R 24 dJ1_indexOfChar_4cfef_24
def M_J1_indexOf_4cfef (σ : Wd) (v1 : Int32) (v2 : Int32) (v3 : Int32) : Option Int32 :=
  bnd1 (M_J1_canEncode_9a6ad v1) fun r1 => if r1 ≠ 0 then (lt (if v2 < (0 : Int32) then (0 : Int32) else v2) fun v2_14 => lt (if (9 : Int32) < v3 then (9 : Int32) else v3) fun v3_21 => if v2_14 < v3_21 then (bnd1 (M_J1_indexOfChar_4cfef σ v1 v2_14 v3_21) fun r33 => some r33) else (some (-1 : Int32))) else (some (-1 : Int32))
set_option maxRecDepth 100000 in
set_option maxHeartbeats 4000000 in
theorem c_J1_indexOf_4cfef (V : Ct_V) (l : Launch) (σ : Wd) (v1 : Int32) (v2 : Int32) (v3 : Int32) {r : Int32} (h : M_J1_indexOf_4cfef σ v1 v2 v3 = some r) : Ct l (Zc V) yJ1_indexOf_4cfef cJ1_indexOf_4cfef 4 (some .int) 1 30 [.ref (V.2.2.2 1), .int v1, .int v2, .int v3] σ (some (.int r)) σ := by
  refine Ct_intro (own := RJ1) zc_ok (by decide +kernel) rfl (Nat.le_of_ble_eq_true rfl) [(0, .ref (V.2.2.2 1)), (1, .int v1), (2, .int v2), (3, .int v3)] rfl (fun K C R hKl hnL => ?_)
  have hN := nl_of hnL
  subst hKl
  refine Y_end h ?_
  unfold M_J1_indexOf_4cfef
  refine x_iload_n C 0 1 dJ1_indexOf_4cfef_0 rfl ?_
  refine Y_bnd1 (fun r1 h1 => ?_)
  refine x_callSi C 1 [.int v1] [] rfl tw_466 ms_J1_canEncode_9a6ad (Nat.le_of_ble_eq_true rfl) (Nat.le_of_ble_eq_true rfl) (Nat.le_of_ble_eq_true rfl) dJ1_indexOf_4cfef_1 (c_J1_canEncode_9a6ad V _ _ _ h1) ?_
  refine x_if_ne C 4 9 dJ1_indexOf_4cfef_4 (by decide) (fun _ => ?_) (fun _ => ?_)
  · refine x_iload_n C 9 2 dJ1_indexOf_4cfef_9 rfl ?_
    refine x_iconst C 10 dJ1_indexOf_4cfef_10 ki_0 ?_
    refine x_mmax C 11 tw_469 tw_470 tw_49 tw_471 (Nat.le_of_ble_eq_true rfl) (Nat.le_of_ble_eq_true rfl) dJ1_indexOf_4cfef_11 ?_
    refine x_istore_nt C 14 (fun v2_14 => [(2, .int v2_14), (0, .ref (V.2.2.2 1)), (1, .int v1), (3, .int v3)]) dJ1_indexOf_4cfef_14 rfl (hN _ (Nat.le_of_ble_eq_true rfl)) (fun _ => rfl) (fun v2_14 => ?_)
    refine x_iload_n C 15 3 dJ1_indexOf_4cfef_15 rfl ?_
    refine x_aload_n C 16 1 dJ1_indexOf_4cfef_16 rfl ?_
    refine x_sglen C 17 dJ1_indexOf_4cfef_17 ?_
    refine x_mmin C 18 tw_472 tw_414 tw_49 tw_415 (Nat.le_of_ble_eq_true rfl) (Nat.le_of_ble_eq_true rfl) dJ1_indexOf_4cfef_18 ?_
    refine x_istore_nt C 21 (fun v3_21 => [(3, .int v3_21), (2, .int v2_14), (0, .ref (V.2.2.2 1)), (1, .int v1)]) dJ1_indexOf_4cfef_21 rfl (hN _ (Nat.le_of_ble_eq_true rfl)) (fun _ => rfl) (fun v3_21 => ?_)
    refine x_iload_n C 22 1 dJ1_indexOf_4cfef_22 rfl ?_
    refine x_iload_n C 23 0 dJ1_indexOf_4cfef_23 rfl ?_
    refine x_icmp_lt C 24 29 dJ1_indexOf_4cfef_24 (by decide) (fun _ => ?_) (fun _ => ?_)
    · refine x_aload_n C 29 2 dJ1_indexOf_4cfef_29 rfl ?_
      refine x_iload_n C 30 3 dJ1_indexOf_4cfef_30 rfl ?_
      refine x_iload_n C 31 1 dJ1_indexOf_4cfef_31 rfl ?_
      refine x_iload_n C 32 0 dJ1_indexOf_4cfef_32 rfl ?_
      refine Y_bnd1 (fun r33 h33 => ?_)
      refine x_callSi C 33 [.ref (V.2.2.2 1), .int v1, .int v2_14, .int v3_21] [] rfl tw_473 ms_J1_indexOfChar_4cfef (Nat.le_of_ble_eq_true rfl) (Nat.le_of_ble_eq_true rfl) (Nat.le_of_ble_eq_true rfl) dJ1_indexOf_4cfef_33 (c_J1_indexOfChar_4cfef V _ _ _ _ _ h33) ?_
      exact x_iret1 C R 36 dJ1_indexOf_4cfef_36
    · refine x_iconst C 27 dJ1_indexOf_4cfef_27 ki_m1 ?_
      exact x_iret1 C R 28 dJ1_indexOf_4cfef_28
  · refine x_iconst C 7 dJ1_indexOf_4cfef_7 ki_m1 ?_
    exact x_iret1 C R 8 dJ1_indexOf_4cfef_8
def M_J0_indexOf_7cf53 (σ : Wd) (v1 : Int32) (v2 : Int32) : Option Int32 :=
  bnd1 (M_J0_isLatin1_aae02 σ) fun r1 => if r1 = 0 then (bnd1 (M_J0_length_8abf5 σ) fun r30 => none) else (bnd1 (M_J0_length_8abf5 σ) fun r14 => bnd1 (M_J1_indexOf_4cfef σ v1 v2 r14) fun r17 => some r17)
set_option maxRecDepth 100000 in
set_option maxHeartbeats 4000000 in
theorem c_J0_indexOf_7cf53 (V : Ct_V) (l : Launch) (σ : Wd) (v1 : Int32) (v2 : Int32) {r : Int32} (h : M_J0_indexOf_7cf53 σ v1 v2 = some r) : Ct l (Zc V) yJ0_indexOf_7cf53 cJ0_indexOf_7cf53 3 (some .int) 2 53 [.ref (V.2.2.2 0), .int v1, .int v2] σ (some (.int r)) σ := by
  refine Ct_intro (own := RJ0) zc_ok (by decide +kernel) rfl (Nat.le_of_ble_eq_true rfl) [(0, .ref (V.2.2.2 0)), (1, .int v1), (2, .int v2)] rfl (fun K C R hKl hnL => ?_)
  have hN := nl_of hnL
  subst hKl
  refine Y_end h ?_
  unfold M_J0_indexOf_7cf53
  refine x_aload_n C 0 0 dJ0_indexOf_7cf53_0 rfl ?_
  refine Y_bnd1 (fun r1 h1 => ?_)
  refine x_callTi C 1 [] [] rfl tw_449 mv_J0_isLatin1_aae02 (Nat.le_of_ble_eq_true rfl) (Nat.le_of_ble_eq_true rfl) (Nat.le_of_ble_eq_true rfl) rfl dJ0_indexOf_7cf53_1 (c_J0_isLatin1_aae02 V _ _  h1) ?_
  refine x_if_eq C 4 23 dJ0_indexOf_7cf53_4 (by decide) (fun _ => ?_) (fun _ => ?_)
  · refine x_aload_n C 23 0 dJ0_indexOf_7cf53_23 rfl ?_
    refine x_sgval C 24 dJ0_indexOf_7cf53_24 ?_
    refine x_iload_n C 27 1 dJ0_indexOf_7cf53_27 rfl ?_
    refine x_iload_n C 28 2 dJ0_indexOf_7cf53_28 rfl ?_
    refine x_aload_n C 29 0 dJ0_indexOf_7cf53_29 rfl ?_
    refine Y_bnd1 (fun r30 h30 => ?_)
    refine x_callTi C 30 [] [.int v2, .int v1, .ref (V.2.2.2 1)] rfl tw_455 mv_J0_length_8abf5 (Nat.le_of_ble_eq_true rfl) (Nat.le_of_ble_eq_true rfl) (Nat.le_of_ble_eq_true rfl) rfl dJ0_indexOf_7cf53_30 (c_J0_length_8abf5 V _ _  h30) ?_
    exact Y_none
  · refine x_aload_n C 7 0 dJ0_indexOf_7cf53_7 rfl ?_
    refine x_sgval C 8 dJ0_indexOf_7cf53_8 ?_
    refine x_iload_n C 11 1 dJ0_indexOf_7cf53_11 rfl ?_
    refine x_iload_n C 12 2 dJ0_indexOf_7cf53_12 rfl ?_
    refine x_aload_n C 13 0 dJ0_indexOf_7cf53_13 rfl ?_
    refine Y_bnd1 (fun r14 h14 => ?_)
    refine x_callTi C 14 [] [.int v2, .int v1, .ref (V.2.2.2 1)] rfl tw_455 mv_J0_length_8abf5 (Nat.le_of_ble_eq_true rfl) (Nat.le_of_ble_eq_true rfl) (Nat.le_of_ble_eq_true rfl) rfl dJ0_indexOf_7cf53_14 (c_J0_length_8abf5 V _ _  h14) ?_
    refine Y_bnd1 (fun r17 h17 => ?_)
    refine x_callSi C 17 [.ref (V.2.2.2 1), .int v1, .int v2, .int r14] [] rfl tw_463 ms_J1_indexOf_4cfef (Nat.le_of_ble_eq_true rfl) (Nat.le_of_ble_eq_true rfl) (Nat.le_of_ble_eq_true rfl) dJ0_indexOf_7cf53_17 (c_J1_indexOf_4cfef V _ _ _ _ _ h17) ?_
    refine x_goto C 20 36 dJ0_indexOf_7cf53_20 (by decide) ?_
    exact x_iret1 C R 36 dJ0_indexOf_7cf53_36
def M_J0_indexOf_0f7a4 (σ : Wd) (v1 : Int32) : Option Int32 :=
  bnd1 (M_J0_indexOf_7cf53 σ v1 (0 : Int32)) fun r3 => some r3
set_option maxRecDepth 100000 in
set_option maxHeartbeats 4000000 in
theorem c_J0_indexOf_0f7a4 (V : Ct_V) (l : Launch) (σ : Wd) (v1 : Int32) {r : Int32} (h : M_J0_indexOf_0f7a4 σ v1 = some r) : Ct l (Zc V) yJ0_indexOf_0f7a4 cJ0_indexOf_0f7a4 2 (some .int) 3 75 [.ref (V.2.2.2 0), .int v1] σ (some (.int r)) σ := by
  refine Ct_intro (own := RJ0) zc_ok (by decide +kernel) rfl (Nat.le_of_ble_eq_true rfl) [(0, .ref (V.2.2.2 0)), (1, .int v1)] rfl (fun K C R hKl hnL => ?_)
  have hN := nl_of hnL
  subst hKl
  refine Y_end h ?_
  unfold M_J0_indexOf_0f7a4
  refine x_aload_n C 0 0 dJ0_indexOf_0f7a4_0 rfl ?_
  refine x_iload_n C 1 1 dJ0_indexOf_0f7a4_1 rfl ?_
  refine x_iconst C 2 dJ0_indexOf_0f7a4_2 ki_0 ?_
  refine Y_bnd1 (fun r3 h3 => ?_)
  refine x_callTi C 3 [.int v1, .int (0 : Int32)] [] rfl tw_445 mv_J0_indexOf_7cf53 (Nat.le_of_ble_eq_true rfl) (Nat.le_of_ble_eq_true rfl) (Nat.le_of_ble_eq_true rfl) rfl dJ0_indexOf_0f7a4_3 (c_J0_indexOf_7cf53 V _ _ _ _ h3) ?_
  exact x_iret1 C R 6 dJ0_indexOf_0f7a4_6
def M_X6_takeOne_J66 (σ : Wd) (t0 : Int32) (t1 : Int32) : Option Wd :=
  chk (ib t1 402) (lt (uI σ 7 (ix t1) t0) fun s_66 => chk (ib (gI s_66 6 3) 402) (lt (uL s_66 9 (ix (gI s_66 6 3)) (0 : Int64)) fun s_76 => lt (uI s_76 6 5 ((gI s_76 6 5) + (1 : Int32))) fun s_84 => some s_84))
def M_X6_takeOne (σ : Wd) (v2 : Int32) : Option Wd :=
  chk (ib (gI σ 6 5) 2000) (lt (gI σ 1 (ix (gI σ 6 5))) fun v3_6 => bnd1 (M_X6_isLetter v3_6) fun r8 => if r8 = 0 then (bnd1 (M_X6_isDigit v3_6) fun r24 => if r24 = 0 then (bnd1 (M_J0_indexOf_0f7a4 σ (((v3_6 &&& (255 : Int32)).toUInt32 % 65536).toInt32)) fun r55 => if r55 < 0 then (M_X6_takeOne_J66 σ (1 : Int32) (gI σ 6 3)) else (M_X6_takeOne_J66 σ v3_6 (gI σ 6 3))) else (bnd1 (M_X6_takeInt σ v2) fun s_33 => some s_33)) else (bnd1 (M_X6_takeWord σ v2) fun s_17 => some s_17))
set_option maxRecDepth 100000 in
set_option maxHeartbeats 4000000 in
theorem c_X6_takeOne (V : Ct_V) (l : Launch) (σ : Wd) (v2 : Int32) {σ2 : Wd} (h : M_X6_takeOne σ v2 = some σ2) : Ct l (Zc V) yX6_takeOne cX6_takeOne 4 none 4 96 [.ref (zA (Zc V) 6), .ref (zA (Zc V) 1), .int v2] σ none σ2 := by
  refine Ct_intro (own := RX6) zc_ok (by decide +kernel) rfl (Nat.le_of_ble_eq_true rfl) [(0, .ref (zA (Zc V) 6)), (1, .ref (zA (Zc V) 1)), (2, .int v2)] rfl (fun K C R hKl hnL => ?_)
  have hN := nl_of hnL
  subst hKl
  refine Y_end h ?_
  unfold M_X6_takeOne
  refine x_aload_n C 0 1 dX6_takeOne_0 rfl ?_
  refine x_aload_n C 1 0 dX6_takeOne_1 rfl ?_
  refine fgc_X6_33 C 2 dX6_takeOne_2 ?_
  refine x_bald C 5 (Nat.le_of_ble_eq_true rfl) (kc_1 V _) dX6_takeOne_5 (fun _ => ?_)
  refine x_istore_nt C 6 (fun v3_6 => [(3, .int v3_6), (0, .ref (zA (Zc V) 6)), (1, .ref (zA (Zc V) 1)), (2, .int v2)]) dX6_takeOne_6 rfl (hN _ (Nat.le_of_ble_eq_true rfl)) (fun _ => rfl) (fun v3_6 => ?_)
  refine x_iload_n C 7 0 dX6_takeOne_7 rfl ?_
  refine Y_bnd1 (fun r8 h8 => ?_)
  refine x_callSi C 8 [.int v3_6] [] rfl tw_424 ms_X6_isLetter (Nat.le_of_ble_eq_true rfl) (Nat.le_of_ble_eq_true rfl) (Nat.le_of_ble_eq_true rfl) dX6_takeOne_8 (c_X6_isLetter V _ _ _ h8) ?_
  refine x_if_eq C 11 23 dX6_takeOne_11 (by decide) (fun _ => ?_) (fun _ => ?_)
  · refine x_iload_n C 23 0 dX6_takeOne_23 rfl ?_
    refine Y_bnd1 (fun r24 h24 => ?_)
    refine x_callSi C 24 [.int v3_6] [] rfl tw_433 ms_X6_isDigit (Nat.le_of_ble_eq_true rfl) (Nat.le_of_ble_eq_true rfl) (Nat.le_of_ble_eq_true rfl) dX6_takeOne_24 (c_X6_isDigit V _ _ _ h24) ?_
    refine x_if_eq C 27 39 dX6_takeOne_27 (by decide) (fun _ => ?_) (fun _ => ?_)
    · refine x_aload_n C 39 1 dX6_takeOne_39 rfl ?_
      refine fgc_X6_9 C 40 dX6_takeOne_40 ?_
      refine x_aload_n C 43 1 dX6_takeOne_43 rfl ?_
      refine fgc_X6_26 C 44 dX6_takeOne_44 ?_
      refine x_sgldc C 47 dX6_takeOne_47 ?_
      refine x_iload_n C 49 0 dX6_takeOne_49 rfl ?_
      refine x_sipush C 50 dX6_takeOne_50 ks_255 ?_
      refine x_iand C 53 dX6_takeOne_53 ?_
      refine x_i2c C 54 dX6_takeOne_54 ?_
      refine Y_bnd1 (fun r55 h55 => ?_)
      refine x_callTi C 55 [.int (((v3_6 &&& (255 : Int32)).toUInt32 % 65536).toInt32)] [.int (gI σ 6 3), .ref (zA (Zc V) 7)] rfl tw_441 mv_J0_indexOf_0f7a4 (Nat.le_of_ble_eq_true rfl) (Nat.le_of_ble_eq_true rfl) (Nat.le_of_ble_eq_true rfl) rfl dX6_takeOne_55 (c_J0_indexOf_0f7a4 V _ _ _ h55) ?_
      have hJ66 : ∀ (σ_66 : Wd) (t0_66 : Int32) (t1_66 : Int32), Y K (Zc V) (M_X6_takeOne_J66 σ_66 t0_66 t1_66) (fun q => q = σ2) σ_66 66 [(0, .ref (zA (Zc V) 6))] [.int t0_66, .int t1_66, .ref (zA (Zc V) 7)] := by
        intro σ_66 t0_66 t1_66
        unfold M_X6_takeOne_J66
        refine x_iast C 66 (Nat.le_of_ble_eq_true rfl) (kc_7 V) dX6_takeOne_66 (fun _ s_66 => ?_)
        refine x_aload_n C 67 0 dX6_takeOne_67 rfl ?_
        refine fgc_X6_16 C 68 dX6_takeOne_68 ?_
        refine x_aload_n C 71 0 dX6_takeOne_71 rfl ?_
        refine fgc_X6_26 C 72 dX6_takeOne_72 ?_
        refine x_lconst C 75 dX6_takeOne_75 kl_0 ?_
        refine x_last C 76 (Nat.le_of_ble_eq_true rfl) (kc_9 V) dX6_takeOne_76 (fun _ s_76 => ?_)
        refine x_aload_n C 77 0 dX6_takeOne_77 rfl ?_
        refine x_dup C 78 dX6_takeOne_78 rfl ?_
        refine fgc_X6_33 C 79 dX6_takeOne_79 ?_
        refine x_iconst C 82 dX6_takeOne_82 ki_1 ?_
        refine x_iadd C 83 dX6_takeOne_83 ?_
        refine fpc_X6_33 C 84 dX6_takeOne_84 (fun s_84 => ?_)
        exact x_vret C R 87 dX6_takeOne_87
      refine x_if_lt C 58 65 dX6_takeOne_58 (by decide) (fun _ => ?_) (fun _ => ?_)
      · refine x_iconst C 65 dX6_takeOne_65 ki_1 ?_
        refine Y_sub [1] rfl ?_
        exact hJ66 _ _ _
      · refine x_iload_n C 61 0 dX6_takeOne_61 rfl ?_
        refine x_goto C 62 66 dX6_takeOne_62 (by decide) ?_
        refine Y_sub [1] rfl ?_
        exact hJ66 _ _ _
    · refine x_aload_n C 30 1 dX6_takeOne_30 rfl ?_
      refine x_aload_n C 31 2 dX6_takeOne_31 rfl ?_
      refine x_iload_n C 32 3 dX6_takeOne_32 rfl ?_
      refine Y_bnd1 (fun s_33 h33 => ?_)
      refine x_callVv C 33 [.ref (zA (Zc V) 1), .int v2] [] rfl tw_436 mv_X6_takeInt (Nat.le_of_ble_eq_true rfl) (Nat.le_of_ble_eq_true rfl) (Nat.le_of_ble_eq_true rfl) (Nat.le_of_ble_eq_true rfl) (kc_6 V _) rfl dX6_takeOne_33 (c_X6_takeInt V _ _ _ h33) ?_
      refine x_goto C 36 87 dX6_takeOne_36 (by decide) ?_
      exact x_vret C R 87 dX6_takeOne_87
  · refine x_aload_n C 14 1 dX6_takeOne_14 rfl ?_
    refine x_aload_n C 15 2 dX6_takeOne_15 rfl ?_
    refine x_iload_n C 16 3 dX6_takeOne_16 rfl ?_
    refine Y_bnd1 (fun s_17 h17 => ?_)
    refine x_callVv C 17 [.ref (zA (Zc V) 1), .int v2] [] rfl tw_427 mv_X6_takeWord (Nat.le_of_ble_eq_true rfl) (Nat.le_of_ble_eq_true rfl) (Nat.le_of_ble_eq_true rfl) (Nat.le_of_ble_eq_true rfl) (kc_6 V _) rfl dX6_takeOne_17 (c_X6_takeWord V _ _ _ h17) ?_
    refine x_goto C 20 87 dX6_takeOne_20 (by decide) ?_
    exact x_vret C R 87 dX6_takeOne_87
def M_X6_takeAll_J84 (σ : Wd) (v3 : Int32) : Option Wd :=
  chk (ib (gI σ 6 3) 402) (lt (uI σ 8 (ix (gI σ 6 3)) v3) fun s_93 => chk (ib (gI s_93 6 3) 402) (lt (uI s_93 7 (ix (gI s_93 6 3)) (0 : Int32)) fun s_103 => chk (ib (gI s_103 6 3) 402) (lt (uL s_103 9 (ix (gI s_103 6 3)) (0 : Int64)) fun s_113 => some s_113)))
def M_X6_takeAll_L28 (v3 : Int32) (σ : Wd) : Option ((Wd) ⊕ (Wd)) :=
  if v3 ≤ (gI σ 6 5) then (some (.inr σ)) else (if (400 : Int32) < (gI σ 6 3) then (some (.inr σ)) else (chk (ib (gI σ 6 3) 402) (lt (uI σ 8 (ix (gI σ 6 3)) (gI σ 6 5)) fun s_58 => bnd1 (M_X6_takeOne s_58 v3) fun s_62 => lt (uI s_62 6 3 ((gI s_62 6 3) + (1 : Int32))) fun s_72 => bnd1 (M_X6_skipBlanks s_72 v3) fun s_78 => some (.inl s_78))))
def M_X6_takeAll (σ : Wd) (v2 : Int32) : Option Wd :=
  lt (if (2000 : Int32) < v2 then (2000 : Int32) else v2) fun v3_6 => lt (uI σ 6 3 (0 : Int32)) fun s_9 => lt (uI s_9 6 4 (0 : Int32)) fun s_14 => lt (uI s_14 6 5 (0 : Int32)) fun s_19 => bnd1 (M_X6_skipBlanks s_19 v3_6) fun s_25 => bnd1 (iter (fun s : Wd => M_X6_takeAll_L28 v3_6 s) FU s_25) (un1 fun sx_28 => (M_X6_takeAll_J84 sx_28 v3_6))
set_option maxRecDepth 100000 in
set_option maxHeartbeats 4000000 in
theorem c_X6_takeAll (V : Ct_V) (l : Launch) (σ : Wd) (v2 : Int32) {σ2 : Wd} (h : M_X6_takeAll σ v2 = some σ2) : Ct l (Zc V) yX6_takeAll cX6_takeAll 4 none 5 119 [.ref (zA (Zc V) 6), .ref (zA (Zc V) 1), .int v2] σ none σ2 := by
  refine Ct_intro (own := RX6) zc_ok (by decide +kernel) rfl (Nat.le_of_ble_eq_true rfl) [(0, .ref (zA (Zc V) 6)), (1, .ref (zA (Zc V) 1)), (2, .int v2)] rfl (fun K C R hKl hnL => ?_)
  have hN := nl_of hnL
  subst hKl
  refine Y_end h ?_
  unfold M_X6_takeAll
  refine x_iload_n C 0 2 dX6_takeAll_0 rfl ?_
  refine x_aload_n C 1 1 dX6_takeAll_1 rfl ?_
  refine x_alen C 2 (n := 0) (v := (2000 : Int32)) (Nat.le_of_ble_eq_true rfl) (kc_1 V _) (t0 := 0) rfl rfl dX6_takeAll_2 ?_
  refine x_mmin C 3 tw_413 tw_414 tw_49 tw_415 (Nat.le_of_ble_eq_true rfl) (Nat.le_of_ble_eq_true rfl) dX6_takeAll_3 ?_
  refine x_istore_nt C 6 (fun v3_6 => [(3, .int v3_6), (0, .ref (zA (Zc V) 6)), (1, .ref (zA (Zc V) 1)), (2, .int v2)]) dX6_takeAll_6 rfl (hN _ (Nat.le_of_ble_eq_true rfl)) (fun _ => rfl) (fun v3_6 => ?_)
  refine x_aload_n C 7 1 dX6_takeAll_7 rfl ?_
  refine x_iconst C 8 dX6_takeAll_8 ki_0 ?_
  refine fpc_X6_26 C 9 dX6_takeAll_9 (fun s_9 => ?_)
  refine x_aload_n C 12 1 dX6_takeAll_12 rfl ?_
  refine x_iconst C 13 dX6_takeAll_13 ki_0 ?_
  refine fpc_X6_30 C 14 dX6_takeAll_14 (fun s_14 => ?_)
  refine x_aload_n C 17 1 dX6_takeAll_17 rfl ?_
  refine x_iconst C 18 dX6_takeAll_18 ki_0 ?_
  refine fpc_X6_33 C 19 dX6_takeAll_19 (fun s_19 => ?_)
  refine x_aload_n C 22 1 dX6_takeAll_22 rfl ?_
  refine x_aload_n C 23 2 dX6_takeAll_23 rfl ?_
  refine x_iload_n C 24 0 dX6_takeAll_24 rfl ?_
  refine Y_bnd1 (fun s_25 h25 => ?_)
  refine x_callVv C 25 [.ref (zA (Zc V) 1), .int v3_6] [] rfl tw_416 mv_X6_skipBlanks (Nat.le_of_ble_eq_true rfl) (Nat.le_of_ble_eq_true rfl) (Nat.le_of_ble_eq_true rfl) (Nat.le_of_ble_eq_true rfl) (kc_6 V _) rfl dX6_takeAll_25 (c_X6_skipBlanks V _ _ _ h25) ?_
  have hJ84 : ∀ (σ_84 : Wd) (v3_84 : Int32), Y K (Zc V) (M_X6_takeAll_J84 σ_84 v3_84) (fun q => q = σ2) σ_84 84 [(0, .ref (zA (Zc V) 6)), (3, .int v3_84)] [] := by
    intro σ_84 v3_84
    unfold M_X6_takeAll_J84
    refine x_aload_n C 84 0 dX6_takeAll_84 rfl ?_
    refine fgc_X6_13 C 85 dX6_takeAll_85 ?_
    refine x_aload_n C 88 0 dX6_takeAll_88 rfl ?_
    refine fgc_X6_26 C 89 dX6_takeAll_89 ?_
    refine x_iload_n C 92 1 dX6_takeAll_92 rfl ?_
    refine x_iast C 93 (Nat.le_of_ble_eq_true rfl) (kc_8 V) dX6_takeAll_93 (fun _ s_93 => ?_)
    refine x_aload_n C 94 0 dX6_takeAll_94 rfl ?_
    refine fgc_X6_9 C 95 dX6_takeAll_95 ?_
    refine x_aload_n C 98 0 dX6_takeAll_98 rfl ?_
    refine fgc_X6_26 C 99 dX6_takeAll_99 ?_
    refine x_iconst C 102 dX6_takeAll_102 ki_0 ?_
    refine x_iast C 103 (Nat.le_of_ble_eq_true rfl) (kc_7 V) dX6_takeAll_103 (fun _ s_103 => ?_)
    refine x_aload_n C 104 0 dX6_takeAll_104 rfl ?_
    refine fgc_X6_16 C 105 dX6_takeAll_105 ?_
    refine x_aload_n C 108 0 dX6_takeAll_108 rfl ?_
    refine fgc_X6_26 C 109 dX6_takeAll_109 ?_
    refine x_lconst C 112 dX6_takeAll_112 kl_0 ?_
    refine x_last C 113 (Nat.le_of_ble_eq_true rfl) (kc_9 V) dX6_takeAll_113 (fun _ s_113 => ?_)
    exact x_vret C R 114 dX6_takeAll_114
  refine Y_sub [1, 2, 0] rfl ?_
  refine x_loop 28 (fun s : Wd => s) (fun s : Wd => [(0, .ref (zA (Zc V) 6)), (1, .ref (zA (Zc V) 1)), (3, .int v3_6)]) (fun E28 hb28 hx28 s => ?_) FU s_25
  obtain ⟨s_28, rfl⟩ : ∃ z, z = s := ⟨s, rfl⟩
  show Y K (Zc V) (M_X6_takeAll_L28 v3_6 s_28) E28 s_28 28 [(0, .ref (zA (Zc V) 6)), (1, .ref (zA (Zc V) 1)), (3, .int v3_6)] []
  unfold M_X6_takeAll_L28
  refine x_aload_n C 28 0 dX6_takeAll_28 rfl ?_
  refine fgc_X6_33 C 29 dX6_takeAll_29 ?_
  refine x_iload_n C 32 2 dX6_takeAll_32 rfl ?_
  refine x_icmp_ge C 33 84 dX6_takeAll_33 (by decide) (fun _ => ?_) (fun _ => ?_)
  · refine x_ex1 hx28 s_28 ?_
    refine Y_sub [0, 2] rfl ?_
    exact hJ84 _ _
  · refine x_aload_n C 36 0 dX6_takeAll_36 rfl ?_
    refine fgc_X6_26 C 37 dX6_takeAll_37 ?_
    refine x_sipush C 40 dX6_takeAll_40 ks_400 ?_
    refine x_icmp_gt C 43 84 dX6_takeAll_43 (by decide) (fun _ => ?_) (fun _ => ?_)
    · refine x_ex1 hx28 s_28 ?_
      refine Y_sub [0, 2] rfl ?_
      exact hJ84 _ _
    · refine x_aload_n C 46 0 dX6_takeAll_46 rfl ?_
      refine fgc_X6_13 C 47 dX6_takeAll_47 ?_
      refine x_aload_n C 50 0 dX6_takeAll_50 rfl ?_
      refine fgc_X6_26 C 51 dX6_takeAll_51 ?_
      refine x_aload_n C 54 0 dX6_takeAll_54 rfl ?_
      refine fgc_X6_33 C 55 dX6_takeAll_55 ?_
      refine x_iast C 58 (Nat.le_of_ble_eq_true rfl) (kc_8 V) dX6_takeAll_58 (fun _ s_58 => ?_)
      refine x_aload_n C 59 0 dX6_takeAll_59 rfl ?_
      refine x_aload_n C 60 1 dX6_takeAll_60 rfl ?_
      refine x_iload_n C 61 2 dX6_takeAll_61 rfl ?_
      refine Y_bnd1 (fun s_62 h62 => ?_)
      refine x_callVv C 62 [.ref (zA (Zc V) 1), .int v3_6] [] rfl tw_420 mv_X6_takeOne (Nat.le_of_ble_eq_true rfl) (Nat.le_of_ble_eq_true rfl) (Nat.le_of_ble_eq_true rfl) (Nat.le_of_ble_eq_true rfl) (kc_6 V _) rfl dX6_takeAll_62 (c_X6_takeOne V _ _ _ h62) ?_
      refine x_aload_n C 65 0 dX6_takeAll_65 rfl ?_
      refine x_dup C 66 dX6_takeAll_66 rfl ?_
      refine fgc_X6_26 C 67 dX6_takeAll_67 ?_
      refine x_iconst C 70 dX6_takeAll_70 ki_1 ?_
      refine x_iadd C 71 dX6_takeAll_71 ?_
      refine fpc_X6_26 C 72 dX6_takeAll_72 (fun s_72 => ?_)
      refine x_aload_n C 75 0 dX6_takeAll_75 rfl ?_
      refine x_aload_n C 76 1 dX6_takeAll_76 rfl ?_
      refine x_iload_n C 77 2 dX6_takeAll_77 rfl ?_
      refine Y_bnd1 (fun s_78 h78 => ?_)
      refine x_callVv C 78 [.ref (zA (Zc V) 1), .int v3_6] [] rfl tw_416 mv_X6_skipBlanks (Nat.le_of_ble_eq_true rfl) (Nat.le_of_ble_eq_true rfl) (Nat.le_of_ble_eq_true rfl) (Nat.le_of_ble_eq_true rfl) (kc_6 V _) rfl dX6_takeAll_78 (c_X6_skipBlanks V _ _ _ h78) ?_
      refine x_goto C 81 28 dX6_takeAll_81 (by decide) ?_
      exact x_back s_78 (hb28 s_78)
def M_X6_kind (σ : Wd) : Option Int32 :=
  chk (ib (gI σ 6 4) 402) (some (gI σ 7 (ix (gI σ 6 4))))
set_option maxRecDepth 100000 in
set_option maxHeartbeats 4000000 in
theorem c_X6_kind (V : Ct_V) (l : Launch) (σ : Wd) {r : Int32} (h : M_X6_kind σ = some r) : Ct l (Zc V) yX6_kind cX6_kind 1 (some .int) 0 0 [.ref (zA (Zc V) 6)] σ (some (.int r)) σ := by
  refine Ct_intro (own := RX6) zc_ok (by decide +kernel) rfl (Nat.le_of_ble_eq_true rfl) [(0, .ref (zA (Zc V) 6))] rfl (fun K C R hKl hnL => ?_)
  have hN := nl_of hnL
  subst hKl
  refine Y_end h ?_
  unfold M_X6_kind
  refine x_aload_n C 0 0 dX6_kind_0 rfl ?_
  refine fgc_X6_9 C 1 dX6_kind_1 ?_
  refine x_aload_n C 4 0 dX6_kind_4 rfl ?_
  refine fgc_X6_30 C 5 dX6_kind_5 ?_
  refine x_iald C 8 (Nat.le_of_ble_eq_true rfl) (kc_7 V _) dX6_kind_8 (fun _ => ?_)
  exact x_iret1 C R 9 dX6_kind_9
def M_X6_start (σ : Wd) : Option Int32 :=
  chk (ib (gI σ 6 4) 402) (some (gI σ 8 (ix (gI σ 6 4))))
set_option maxRecDepth 100000 in
set_option maxHeartbeats 4000000 in
theorem c_X6_start (V : Ct_V) (l : Launch) (σ : Wd) {r : Int32} (h : M_X6_start σ = some r) : Ct l (Zc V) yX6_start cX6_start 1 (some .int) 0 0 [.ref (zA (Zc V) 6)] σ (some (.int r)) σ := by
  refine Ct_intro (own := RX6) zc_ok (by decide +kernel) rfl (Nat.le_of_ble_eq_true rfl) [(0, .ref (zA (Zc V) 6))] rfl (fun K C R hKl hnL => ?_)
  have hN := nl_of hnL
  subst hKl
  refine Y_end h ?_
  unfold M_X6_start
  refine x_aload_n C 0 0 dX6_start_0 rfl ?_
  refine fgc_X6_13 C 1 dX6_start_1 ?_
  refine x_aload_n C 4 0 dX6_start_4 rfl ?_
  refine fgc_X6_30 C 5 dX6_start_5 ?_
  refine x_iald C 8 (Nat.le_of_ble_eq_true rfl) (kc_8 V _) dX6_start_8 (fun _ => ?_)
  exact x_iret1 C R 9 dX6_start_9
def M_X3_fail (σ : Wd) (v1 : Int32) : Option Wd :=
  if (gI σ 2 7) ≠ 0 then (some σ) else (lt (uI σ 2 7 v1) fun s_9 => bnd1 (M_X6_start s_9) fun r17 => lt (uI s_9 2 8 r17) fun s_20 => some s_20)
set_option maxRecDepth 100000 in
set_option maxHeartbeats 4000000 in
theorem c_X3_fail (V : Ct_V) (l : Launch) (σ : Wd) (v1 : Int32) {σ2 : Wd} (h : M_X3_fail σ v1 = some σ2) : Ct l (Zc V) yX3_fail cX3_fail 2 none 1 20 [.ref (zA (Zc V) 2), .int v1] σ none σ2 := by
  refine Ct_intro (own := RX3) zc_ok (by decide +kernel) rfl (Nat.le_of_ble_eq_true rfl) [(0, .ref (zA (Zc V) 2)), (1, .int v1)] rfl (fun K C R hKl hnL => ?_)
  have hN := nl_of hnL
  subst hKl
  refine Y_end h ?_
  unfold M_X3_fail
  refine x_aload_n C 0 0 dX3_fail_0 rfl ?_
  refine fgc_X3_45 C 1 dX3_fail_1 ?_
  refine x_if_ne C 4 23 dX3_fail_4 (by decide) (fun _ => ?_) (fun _ => ?_)
  · exact x_vret C R 23 dX3_fail_23
  · refine x_aload_n C 7 0 dX3_fail_7 rfl ?_
    refine x_iload_n C 8 1 dX3_fail_8 rfl ?_
    refine fpc_X3_45 C 9 dX3_fail_9 (fun s_9 => ?_)
    refine x_aload_n C 12 0 dX3_fail_12 rfl ?_
    refine x_aload_n C 13 0 dX3_fail_13 rfl ?_
    refine fgc_X3_12 C 14 dX3_fail_14 ?_
    refine Y_bnd1 (fun r17 h17 => ?_)
    refine x_callVi C 17 [] [.ref (zA (Zc V) 2)] rfl tw_537 mv_X6_start (Nat.le_of_ble_eq_true rfl) (Nat.le_of_ble_eq_true rfl) (Nat.le_of_ble_eq_true rfl) (Nat.le_of_ble_eq_true rfl) (kc_6 V _) rfl dX3_fail_17 (c_X6_start V _ _  h17) ?_
    refine fpc_X3_33 C 20 dX3_fail_20 (fun s_20 => ?_)
    exact x_vret C R 23 dX3_fail_23
def M_X6_isOneTooMany (σ : Wd) : Option Int32 :=
  if (gI σ 6 4) < (400 : Int32) then (some (0 : Int32)) else (some (1 : Int32))
set_option maxRecDepth 100000 in
set_option maxHeartbeats 4000000 in
theorem c_X6_isOneTooMany (V : Ct_V) (l : Launch) (σ : Wd) {r : Int32} (h : M_X6_isOneTooMany σ = some r) : Ct l (Zc V) yX6_isOneTooMany cX6_isOneTooMany 1 (some .boolean) 0 0 [.ref (zA (Zc V) 6)] σ (some (.int r)) σ := by
  refine Ct_intro (own := RX6) zc_ok (by decide +kernel) rfl (Nat.le_of_ble_eq_true rfl) [(0, .ref (zA (Zc V) 6))] rfl (fun K C R hKl hnL => ?_)
  have hN := nl_of hnL
  subst hKl
  refine Y_end h ?_
  unfold M_X6_isOneTooMany
  refine x_aload_n C 0 0 dX6_isOneTooMany_0 rfl ?_
  refine fgc_X6_30 C 1 dX6_isOneTooMany_1 ?_
  refine x_sipush C 4 dX6_isOneTooMany_4 ks_400 ?_
  refine x_icmp_lt C 7 14 dX6_isOneTooMany_7 (by decide) (fun _ => ?_) (fun _ => ?_)
  · refine x_iconst C 14 dX6_isOneTooMany_14 ki_0 ?_
    exact x_zret1 C R 15 (zb_nar (r := (0 : Int32)) (Or.inl rfl)) dX6_isOneTooMany_15
  · refine x_iconst C 10 dX6_isOneTooMany_10 ki_1 ?_
    refine x_goto C 11 15 dX6_isOneTooMany_11 (by decide) ?_
    exact x_zret1 C R 15 (zb_nar (r := (1 : Int32)) (Or.inr rfl)) dX6_isOneTooMany_15
def M_X6_advance (σ : Wd) : Option Wd :=
  if (gI σ 6 3) ≤ (gI σ 6 4) then (some σ) else (lt (uI σ 6 4 ((gI σ 6 4) + (1 : Int32))) fun s_18 => some s_18)
set_option maxRecDepth 100000 in
set_option maxHeartbeats 4000000 in
theorem c_X6_advance (V : Ct_V) (l : Launch) (σ : Wd) {σ2 : Wd} (h : M_X6_advance σ = some σ2) : Ct l (Zc V) yX6_advance cX6_advance 1 none 0 0 [.ref (zA (Zc V) 6)] σ none σ2 := by
  refine Ct_intro (own := RX6) zc_ok (by decide +kernel) rfl (Nat.le_of_ble_eq_true rfl) [(0, .ref (zA (Zc V) 6))] rfl (fun K C R hKl hnL => ?_)
  have hN := nl_of hnL
  subst hKl
  refine Y_end h ?_
  unfold M_X6_advance
  refine x_aload_n C 0 0 dX6_advance_0 rfl ?_
  refine fgc_X6_30 C 1 dX6_advance_1 ?_
  refine x_aload_n C 4 0 dX6_advance_4 rfl ?_
  refine fgc_X6_26 C 5 dX6_advance_5 ?_
  refine x_icmp_ge C 8 21 dX6_advance_8 (by decide) (fun _ => ?_) (fun _ => ?_)
  · exact x_vret C R 21 dX6_advance_21
  · refine x_aload_n C 11 0 dX6_advance_11 rfl ?_
    refine x_dup C 12 dX6_advance_12 rfl ?_
    refine fgc_X6_30 C 13 dX6_advance_13 ?_
    refine x_iconst C 16 dX6_advance_16 ki_1 ?_
    refine x_iadd C 17 dX6_advance_17 ?_
    refine fpc_X6_30 C 18 dX6_advance_18 (fun s_18 => ?_)
    exact x_vret C R 21 dX6_advance_21
def M_X3_take (σ : Wd) (v1 : Int32) : Option Wd :=
  if (gI σ 2 7) = 0 then (bnd1 (M_X6_kind σ) fun r12 => if r12 = v1 then (bnd1 (M_X6_isOneTooMany σ) fun r31 => if r31 = 0 then (bnd1 (M_X6_advance σ) fun s_49 => some s_49) else (bnd1 (M_X3_fail σ (2 : Int32)) fun s_39 => some s_39)) else (bnd1 (M_X3_fail σ (1 : Int32)) fun s_21 => some s_21)) else (some σ)
set_option maxRecDepth 100000 in
set_option maxHeartbeats 4000000 in
theorem c_X3_take (V : Ct_V) (l : Launch) (σ : Wd) (v1 : Int32) {σ2 : Wd} (h : M_X3_take σ v1 = some σ2) : Ct l (Zc V) yX3_take cX3_take 2 none 2 41 [.ref (zA (Zc V) 2), .int v1] σ none σ2 := by
  refine Ct_intro (own := RX3) zc_ok (by decide +kernel) rfl (Nat.le_of_ble_eq_true rfl) [(0, .ref (zA (Zc V) 2)), (1, .int v1)] rfl (fun K C R hKl hnL => ?_)
  have hN := nl_of hnL
  subst hKl
  refine Y_end h ?_
  unfold M_X3_take
  refine x_aload_n C 0 0 dX3_take_0 rfl ?_
  refine fgc_X3_45 C 1 dX3_take_1 ?_
  refine x_if_eq C 4 8 dX3_take_4 (by decide) (fun _ => ?_) (fun _ => ?_)
  · refine x_aload_n C 8 0 dX3_take_8 rfl ?_
    refine fgc_X3_12 C 9 dX3_take_9 ?_
    refine Y_bnd1 (fun r12 h12 => ?_)
    refine x_callVi C 12 [] [] rfl tw_525 mv_X6_kind (Nat.le_of_ble_eq_true rfl) (Nat.le_of_ble_eq_true rfl) (Nat.le_of_ble_eq_true rfl) (Nat.le_of_ble_eq_true rfl) (kc_6 V _) rfl dX3_take_12 (c_X6_kind V _ _  h12) ?_
    refine x_iload_n C 15 1 dX3_take_15 rfl ?_
    refine x_icmp_eq C 16 27 dX3_take_16 (by decide) (fun _ => ?_) (fun _ => ?_)
    · refine x_aload_n C 27 0 dX3_take_27 rfl ?_
      refine fgc_X3_12 C 28 dX3_take_28 ?_
      refine Y_bnd1 (fun r31 h31 => ?_)
      refine x_callVi C 31 [] [] rfl tw_545 mv_X6_isOneTooMany (Nat.le_of_ble_eq_true rfl) (Nat.le_of_ble_eq_true rfl) (Nat.le_of_ble_eq_true rfl) (Nat.le_of_ble_eq_true rfl) (kc_6 V _) rfl dX3_take_31 (c_X6_isOneTooMany V _ _  h31) ?_
      refine x_if_eq C 34 45 dX3_take_34 (by decide) (fun _ => ?_) (fun _ => ?_)
      · refine x_aload_n C 45 0 dX3_take_45 rfl ?_
        refine fgc_X3_12 C 46 dX3_take_46 ?_
        refine Y_bnd1 (fun s_49 h49 => ?_)
        refine x_callVv C 49 [] [] rfl tw_549 mv_X6_advance (Nat.le_of_ble_eq_true rfl) (Nat.le_of_ble_eq_true rfl) (Nat.le_of_ble_eq_true rfl) (Nat.le_of_ble_eq_true rfl) (kc_6 V _) rfl dX3_take_49 (c_X6_advance V _ _  h49) ?_
        exact x_vret C R 52 dX3_take_52
      · refine x_aload_n C 37 0 dX3_take_37 rfl ?_
        refine x_iconst C 38 dX3_take_38 ki_2 ?_
        refine Y_bnd1 (fun s_39 h39 => ?_)
        refine x_callVv C 39 [.int (2 : Int32)] [] rfl tw_533 mv_X3_fail (Nat.le_of_ble_eq_true rfl) (Nat.le_of_ble_eq_true rfl) (Nat.le_of_ble_eq_true rfl) (Nat.le_of_ble_eq_true rfl) (kc_2 V _) rfl dX3_take_39 (c_X3_fail V _ _ _ h39) ?_
        refine x_goto C 42 52 dX3_take_42 (by decide) ?_
        exact x_vret C R 52 dX3_take_52
    · refine x_aload_n C 19 0 dX3_take_19 rfl ?_
      refine x_iconst C 20 dX3_take_20 ki_1 ?_
      refine Y_bnd1 (fun s_21 h21 => ?_)
      refine x_callVv C 21 [.int (1 : Int32)] [] rfl tw_533 mv_X3_fail (Nat.le_of_ble_eq_true rfl) (Nat.le_of_ble_eq_true rfl) (Nat.le_of_ble_eq_true rfl) (Nat.le_of_ble_eq_true rfl) (kc_2 V _) rfl dX3_take_21 (c_X3_fail V _ _ _ h21) ?_
      refine x_goto C 24 52 dX3_take_24 (by decide) ?_
      exact x_vret C R 52 dX3_take_52
  · exact x_vret C R 7 dX3_take_7
def M_X6_name (σ : Wd) : Option Int64 :=
  chk (ib (gI σ 6 4) 402) (some (gL σ 9 (ix (gI σ 6 4))))
set_option maxRecDepth 100000 in
set_option maxHeartbeats 4000000 in
theorem c_X6_name (V : Ct_V) (l : Launch) (σ : Wd) {r : Int64} (h : M_X6_name σ = some r) : Ct l (Zc V) yX6_name cX6_name 1 (some .long) 0 0 [.ref (zA (Zc V) 6)] σ (some (.long r)) σ := by
  refine Ct_intro (own := RX6) zc_ok (by decide +kernel) rfl (Nat.le_of_ble_eq_true rfl) [(0, .ref (zA (Zc V) 6))] rfl (fun K C R hKl hnL => ?_)
  have hN := nl_of hnL
  subst hKl
  refine Y_end h ?_
  unfold M_X6_name
  refine x_aload_n C 0 0 dX6_name_0 rfl ?_
  refine fgc_X6_16 C 1 dX6_name_1 ?_
  refine x_aload_n C 4 0 dX6_name_4 rfl ?_
  refine fgc_X6_30 C 5 dX6_name_5 ?_
  refine x_lald C 8 (Nat.le_of_ble_eq_true rfl) (kc_9 V _) dX6_name_8 (fun _ => ?_)
  exact x_lret1 C R 9 dX6_name_9
def M_X3_findName_L2 (σ : Wd) (v1 : Int64) (v3 : Int32) : Option ((Int32) ⊕ ((Unit) ⊕ Int32)) :=
  if (gI σ 2 3) ≤ v3 then (some (.inr (.inl ()))) else (chk (ib v3 12) (if (lg_cmp (gL σ 3 (ix v3)) v1) ≠ 0 then (lt (v3 + (1 : Int32)) fun v3_23 => some (.inl v3_23)) else (some (.inr (.inr v3)))))
def M_X3_findName (σ : Wd) (v1 : Int64) : Option Int32 :=
  bnd1 (iter (fun s : Int32 => M_X3_findName_L2 σ v1 s) FU (0 : Int32)) (sx (un0 (some (-1 : Int32))) (fun q => some q))
set_option maxRecDepth 100000 in
set_option maxHeartbeats 4000000 in
theorem c_X3_findName (V : Ct_V) (l : Launch) (σ : Wd) (v1 : Int64) {r : Int32} (h : M_X3_findName σ v1 = some r) : Ct l (Zc V) yX3_findName cX3_findName 4 (some .int) 0 0 [.ref (zA (Zc V) 2), .long v1] σ (some (.int r)) σ := by
  refine Ct_intro (own := RX3) zc_ok (by decide +kernel) rfl (Nat.le_of_ble_eq_true rfl) [(0, .ref (zA (Zc V) 2)), (1, .long v1)] rfl (fun K C R hKl hnL => ?_)
  have hN := nl_of hnL
  subst hKl
  refine Y_end h ?_
  unfold M_X3_findName
  refine x_iconst C 0 dX3_findName_0 ki_0 ?_
  refine x_istore_n C 1 (L' := [(3, .int (0 : Int32)), (0, .ref (zA (Zc V) 2)), (1, .long v1)]) dX3_findName_1 rfl (hN _ (Nat.le_of_ble_eq_true rfl)) rfl ?_
  refine Y_sub [1, 2, 0] rfl ?_
  refine x_loop 2 (fun s : Int32 => σ) (fun s : Int32 => [(0, .ref (zA (Zc V) 2)), (1, .long v1), (3, .int s)]) (fun E2 hb2 hx2 s => ?_) FU (0 : Int32)
  obtain ⟨v3_2, rfl⟩ : ∃ z, z = s := ⟨s, rfl⟩
  show Y K (Zc V) (M_X3_findName_L2 σ v1 v3_2) E2 σ 2 [(0, .ref (zA (Zc V) 2)), (1, .long v1), (3, .int v3_2)] []
  unfold M_X3_findName_L2
  refine x_iload_n C 2 2 dX3_findName_2 rfl ?_
  refine x_aload_n C 3 0 dX3_findName_3 rfl ?_
  refine fgc_X3_42 C 4 dX3_findName_4 ?_
  refine x_icmp_ge C 7 29 dX3_findName_7 (by decide) (fun _ => ?_) (fun _ => ?_)
  · refine x_exl0 hx2 ?_
    refine x_iconst C 29 dX3_findName_29 ki_m1 ?_
    exact x_iret1 C R 30 dX3_findName_30
  · refine x_aload_n C 10 0 dX3_findName_10 rfl ?_
    refine fgc_X3_18 C 11 dX3_findName_11 ?_
    refine x_iload_n C 14 2 dX3_findName_14 rfl ?_
    refine x_lald C 15 (Nat.le_of_ble_eq_true rfl) (kc_3 V _) dX3_findName_15 (fun _ => ?_)
    refine x_lload_n C 16 1 dX3_findName_16 rfl ?_
    refine x_lcmp C 17 dX3_findName_17 ?_
    refine x_if_ne C 18 23 dX3_findName_18 (by decide) (fun _ => ?_) (fun _ => ?_)
    · refine x_iinct C 23 2 (1 : Int32) (fun v3_23 => [(3, .int v3_23), (0, .ref (zA (Zc V) 2)), (1, .long v1)]) dX3_findName_23 rfl ki_1 (hN _ (Nat.le_of_ble_eq_true rfl)) (fun _ => rfl) (fun v3_23 => ?_)
      refine x_goto C 26 2 dX3_findName_26 (by decide) ?_
      refine Y_sub [1, 2, 0] rfl ?_
      exact x_back v3_23 (hb2 v3_23)
    · refine x_iload_n C 21 2 dX3_findName_21 rfl ?_
      refine x_exr hx2 _ ?_
      exact x_iret1 C R 22 dX3_findName_22
def M_X3_failLater (σ : Wd) (v1 : Int32) (v2 : Int32) : Option Wd :=
  if (gI σ 2 9) ≠ 0 then (some σ) else (lt (uI σ 2 9 v1) fun s_9 => lt (uI s_9 2 10 v2) fun s_14 => some s_14)
set_option maxRecDepth 100000 in
set_option maxHeartbeats 4000000 in
theorem c_X3_failLater (V : Ct_V) (l : Launch) (σ : Wd) (v1 : Int32) (v2 : Int32) {σ2 : Wd} (h : M_X3_failLater σ v1 v2 = some σ2) : Ct l (Zc V) yX3_failLater cX3_failLater 3 none 0 0 [.ref (zA (Zc V) 2), .int v1, .int v2] σ none σ2 := by
  refine Ct_intro (own := RX3) zc_ok (by decide +kernel) rfl (Nat.le_of_ble_eq_true rfl) [(0, .ref (zA (Zc V) 2)), (1, .int v1), (2, .int v2)] rfl (fun K C R hKl hnL => ?_)
  have hN := nl_of hnL
  subst hKl
  refine Y_end h ?_
  unfold M_X3_failLater
  refine x_aload_n C 0 0 dX3_failLater_0 rfl ?_
  refine fgc_X3_48 C 1 dX3_failLater_1 ?_
  refine x_if_ne C 4 17 dX3_failLater_4 (by decide) (fun _ => ?_) (fun _ => ?_)
  · exact x_vret C R 17 dX3_failLater_17
  · refine x_aload_n C 7 0 dX3_failLater_7 rfl ?_
    refine x_iload_n C 8 1 dX3_failLater_8 rfl ?_
    refine fpc_X3_48 C 9 dX3_failLater_9 (fun s_9 => ?_)
    refine x_aload_n C 12 0 dX3_failLater_12 rfl ?_
    refine x_iload_n C 13 2 dX3_failLater_13 rfl ?_
    refine fpc_X3_51 C 14 dX3_failLater_14 (fun s_14 => ?_)
    exact x_vret C R 17 dX3_failLater_17
def M_X3_keepName_J55 (σ : Wd) (v1 : Int32) : Option Wd :=
  bnd1 (M_X6_name σ) fun r67 => chk (ib (gI σ 2 3) 12) (lt (uL σ 3 (ix (gI σ 2 3)) r67) fun s_70 => chk (ib (gI s_70 2 3) 12) (lt (uI s_70 4 (ix (gI s_70 2 3)) v1) fun s_80 => lt (uI s_80 2 3 ((gI s_80 2 3) + (1 : Int32))) fun s_88 => some s_88))
def M_X3_keepName (σ : Wd) (v1 : Int32) : Option Wd :=
  if (gI σ 2 7) ≠ 0 then (some σ) else (bnd1 (M_X6_kind σ) fun r11 => if r11 ≠ (2 : Int32) then (some σ) else (if (gI σ 2 3) < (12 : Int32) then (bnd1 (M_X6_name σ) fun r33 => bnd1 (M_X3_findName σ r33) fun r36 => if r36 = (-1 : Int32) then (M_X3_keepName_J55 σ v1) else (bnd1 (M_X6_start σ) fun r49 => bnd1 (M_X3_failLater σ (3 : Int32) r49) fun s_52 => M_X3_keepName_J55 s_52 v1)) else (some σ)))
set_option maxRecDepth 100000 in
set_option maxHeartbeats 4000000 in
theorem c_X3_keepName (V : Ct_V) (l : Launch) (σ : Wd) (v1 : Int32) {σ2 : Wd} (h : M_X3_keepName σ v1 = some σ2) : Ct l (Zc V) yX3_keepName cX3_keepName 2 none 1 23 [.ref (zA (Zc V) 2), .int v1] σ none σ2 := by
  refine Ct_intro (own := RX3) zc_ok (by decide +kernel) rfl (Nat.le_of_ble_eq_true rfl) [(0, .ref (zA (Zc V) 2)), (1, .int v1)] rfl (fun K C R hKl hnL => ?_)
  have hN := nl_of hnL
  subst hKl
  refine Y_end h ?_
  unfold M_X3_keepName
  refine x_aload_n C 0 0 dX3_keepName_0 rfl ?_
  refine fgc_X3_45 C 1 dX3_keepName_1 ?_
  refine x_if_ne C 4 27 dX3_keepName_4 (by decide) (fun _ => ?_) (fun _ => ?_)
  · exact x_vret C R 27 dX3_keepName_27
  · refine x_aload_n C 7 0 dX3_keepName_7 rfl ?_
    refine fgc_X3_12 C 8 dX3_keepName_8 ?_
    refine Y_bnd1 (fun r11 h11 => ?_)
    refine x_callVi C 11 [] [] rfl tw_525 mv_X6_kind (Nat.le_of_ble_eq_true rfl) (Nat.le_of_ble_eq_true rfl) (Nat.le_of_ble_eq_true rfl) (Nat.le_of_ble_eq_true rfl) (kc_6 V _) rfl dX3_keepName_11 (c_X6_kind V _ _  h11) ?_
    refine x_iconst C 14 dX3_keepName_14 ki_2 ?_
    refine x_icmp_ne C 15 27 dX3_keepName_15 (by decide) (fun _ => ?_) (fun _ => ?_)
    · exact x_vret C R 27 dX3_keepName_27
    · refine x_aload_n C 18 0 dX3_keepName_18 rfl ?_
      refine fgc_X3_42 C 19 dX3_keepName_19 ?_
      refine x_bipush C 22 dX3_keepName_22 kb_12 ?_
      refine x_icmp_lt C 24 28 dX3_keepName_24 (by decide) (fun _ => ?_) (fun _ => ?_)
      · refine x_aload_n C 28 0 dX3_keepName_28 rfl ?_
        refine x_aload_n C 29 0 dX3_keepName_29 rfl ?_
        refine fgc_X3_12 C 30 dX3_keepName_30 ?_
        refine Y_bnd1 (fun r33 h33 => ?_)
        refine x_callVl C 33 [] [.ref (zA (Zc V) 2)] rfl tw_557 mv_X6_name (Nat.le_of_ble_eq_true rfl) (Nat.le_of_ble_eq_true rfl) (Nat.le_of_ble_eq_true rfl) (Nat.le_of_ble_eq_true rfl) (kc_6 V _) rfl dX3_keepName_33 (c_X6_name V _ _  h33) ?_
        refine Y_bnd1 (fun r36 h36 => ?_)
        refine x_callVi C 36 [.long r33] [] rfl tw_561 mv_X3_findName (Nat.le_of_ble_eq_true rfl) (Nat.le_of_ble_eq_true rfl) (Nat.le_of_ble_eq_true rfl) (Nat.le_of_ble_eq_true rfl) (kc_2 V _) rfl dX3_keepName_36 (c_X3_findName V _ _ _ h36) ?_
        refine x_iconst C 39 dX3_keepName_39 ki_m1 ?_
        have hJ55 : ∀ (σ_55 : Wd) (v1_55 : Int32), Y K (Zc V) (M_X3_keepName_J55 σ_55 v1_55) (fun q => q = σ2) σ_55 55 [(0, .ref (zA (Zc V) 2)), (1, .int v1_55)] [] := by
          intro σ_55 v1_55
          unfold M_X3_keepName_J55
          refine x_aload_n C 55 0 dX3_keepName_55 rfl ?_
          refine fgc_X3_18 C 56 dX3_keepName_56 ?_
          refine x_aload_n C 59 0 dX3_keepName_59 rfl ?_
          refine fgc_X3_42 C 60 dX3_keepName_60 ?_
          refine x_aload_n C 63 0 dX3_keepName_63 rfl ?_
          refine fgc_X3_12 C 64 dX3_keepName_64 ?_
          refine Y_bnd1 (fun r67 h67 => ?_)
          refine x_callVl C 67 [] [.int (gI σ_55 2 3), .ref (zA (Zc V) 3)] rfl tw_557 mv_X6_name (Nat.le_of_ble_eq_true rfl) (Nat.le_of_ble_eq_true rfl) (Nat.le_of_ble_eq_true rfl) (Nat.le_of_ble_eq_true rfl) (kc_6 V _) rfl dX3_keepName_67 (c_X6_name V _ _  h67) ?_
          refine x_last C 70 (Nat.le_of_ble_eq_true rfl) (kc_3 V) dX3_keepName_70 (fun _ s_70 => ?_)
          refine x_aload_n C 71 0 dX3_keepName_71 rfl ?_
          refine fgc_X3_22 C 72 dX3_keepName_72 ?_
          refine x_aload_n C 75 0 dX3_keepName_75 rfl ?_
          refine fgc_X3_42 C 76 dX3_keepName_76 ?_
          refine x_iload_n C 79 1 dX3_keepName_79 rfl ?_
          refine x_iast C 80 (Nat.le_of_ble_eq_true rfl) (kc_4 V) dX3_keepName_80 (fun _ s_80 => ?_)
          refine x_aload_n C 81 0 dX3_keepName_81 rfl ?_
          refine x_dup C 82 dX3_keepName_82 rfl ?_
          refine fgc_X3_42 C 83 dX3_keepName_83 ?_
          refine x_iconst C 86 dX3_keepName_86 ki_1 ?_
          refine x_iadd C 87 dX3_keepName_87 ?_
          refine fpc_X3_42 C 88 dX3_keepName_88 (fun s_88 => ?_)
          exact x_vret C R 91 dX3_keepName_91
        refine x_icmp_eq C 40 55 dX3_keepName_40 (by decide) (fun _ => ?_) (fun _ => ?_)
        · exact hJ55 _ _
        · refine x_aload_n C 43 0 dX3_keepName_43 rfl ?_
          refine x_iconst C 44 dX3_keepName_44 ki_3 ?_
          refine x_aload_n C 45 0 dX3_keepName_45 rfl ?_
          refine fgc_X3_12 C 46 dX3_keepName_46 ?_
          refine Y_bnd1 (fun r49 h49 => ?_)
          refine x_callVi C 49 [] [.int (3 : Int32), .ref (zA (Zc V) 2)] rfl tw_537 mv_X6_start (Nat.le_of_ble_eq_true rfl) (Nat.le_of_ble_eq_true rfl) (Nat.le_of_ble_eq_true rfl) (Nat.le_of_ble_eq_true rfl) (kc_6 V _) rfl dX3_keepName_49 (c_X6_start V _ _  h49) ?_
          refine Y_bnd1 (fun s_52 h52 => ?_)
          refine x_callVv C 52 [.int (3 : Int32), .int r49] [] rfl tw_565 mv_X3_failLater (Nat.le_of_ble_eq_true rfl) (Nat.le_of_ble_eq_true rfl) (Nat.le_of_ble_eq_true rfl) (Nat.le_of_ble_eq_true rfl) (kc_2 V _) rfl dX3_keepName_52 (c_X3_failLater V _ _ _ _ h52) ?_
          exact hJ55 _ _
      · exact x_vret C R 27 dX3_keepName_27
def M_X6_number (σ : Wd) : Option Int32 :=
  chk (ib (gI σ 6 4) 402) (some ((gL σ 9 (ix (gI σ 6 4))).toInt32))
set_option maxRecDepth 100000 in
set_option maxHeartbeats 4000000 in
theorem c_X6_number (V : Ct_V) (l : Launch) (σ : Wd) {r : Int32} (h : M_X6_number σ = some r) : Ct l (Zc V) yX6_number cX6_number 1 (some .int) 0 0 [.ref (zA (Zc V) 6)] σ (some (.int r)) σ := by
  refine Ct_intro (own := RX6) zc_ok (by decide +kernel) rfl (Nat.le_of_ble_eq_true rfl) [(0, .ref (zA (Zc V) 6))] rfl (fun K C R hKl hnL => ?_)
  have hN := nl_of hnL
  subst hKl
  refine Y_end h ?_
  unfold M_X6_number
  refine x_aload_n C 0 0 dX6_number_0 rfl ?_
  refine fgc_X6_16 C 1 dX6_number_1 ?_
  refine x_aload_n C 4 0 dX6_number_4 rfl ?_
  refine fgc_X6_30 C 5 dX6_number_5 ?_
  refine x_lald C 8 (Nat.le_of_ble_eq_true rfl) (kc_9 V _) dX6_number_8 (fun _ => ?_)
  refine x_l2i C 9 dX6_number_9 ?_
  exact x_iret1 C R 10 dX6_number_10
def M_X3_tellCell (σ : Wd) : Option Wd :=
  chk (famT (gR σ 2 6)) (lt (gI σ (gR σ 2 6) 3) fun v1_7 => if v1_7 < (6 : Int32) then (bnd1 (M_X3_take σ (102 : Int32)) fun s_23 => bnd1 (M_X3_keepName s_23 v1_7) fun s_28 => bnd1 (M_X3_take s_28 (2 : Int32)) fun s_33 => chk (famT (gR s_33 2 6)) (bnd1 (M_X6_number s_33) fun r48 => chk (ib v1_7 6) (lt (uI s_33 ((gR s_33 2 6) + 1) (ix v1_7) r48) fun s_51 => bnd1 (M_X3_take s_51 (3 : Int32)) fun s_54 => bnd1 (M_X3_take s_54 (59 : Int32)) fun s_60 => chk (famT (gR s_60 2 6)) (lt (uI s_60 (gR s_60 2 6) 3 ((gI s_60 (gR s_60 2 6) 3) + (1 : Int32))) fun s_73 => some s_73)))) else (bnd1 (M_X3_fail σ (2 : Int32)) fun s_16 => some s_16))
set_option maxRecDepth 100000 in
set_option maxHeartbeats 4000000 in
theorem c_X3_tellCell (V : Ct_V) (l : Launch) (σ : Wd) {σ2 : Wd} (h : M_X3_tellCell σ = some σ2) : Ct l (Zc V) yX3_tellCell cX3_tellCell 2 none 3 62 [.ref (zA (Zc V) 2)] σ none σ2 := by
  refine Ct_intro (own := RX3) zc_ok (by decide +kernel) rfl (Nat.le_of_ble_eq_true rfl) [(0, .ref (zA (Zc V) 2))] rfl (fun K C R hKl hnL => ?_)
  have hN := nl_of hnL
  subst hKl
  refine Y_end h ?_
  unfold M_X3_tellCell
  refine x_aload_n C 0 0 dX3_tellCell_0 rfl ?_
  refine fgc_X3_29 C 1 dX3_tellCell_1 ?_
  refine Y_chk (fun hf1 => ?_)
  refine fgf_X3_97 (hf1) C 4 dX3_tellCell_4 ?_
  refine x_istore_nt C 7 (fun v1_7 => [(1, .int v1_7), (0, .ref (zA (Zc V) 2))]) dX3_tellCell_7 rfl (hN _ (Nat.le_of_ble_eq_true rfl)) (fun _ => rfl) (fun v1_7 => ?_)
  refine x_iload_n C 8 0 dX3_tellCell_8 rfl ?_
  refine x_bipush C 9 dX3_tellCell_9 kb_6 ?_
  refine x_icmp_lt C 11 20 dX3_tellCell_11 (by decide) (fun _ => ?_) (fun _ => ?_)
  · refine x_aload_n C 20 1 dX3_tellCell_20 rfl ?_
    refine x_bipush C 21 dX3_tellCell_21 kb_102 ?_
    refine Y_bnd1 (fun s_23 h23 => ?_)
    refine x_callVv C 23 [.int (102 : Int32)] [] rfl tw_541 mv_X3_take (Nat.le_of_ble_eq_true rfl) (Nat.le_of_ble_eq_true rfl) (Nat.le_of_ble_eq_true rfl) (Nat.le_of_ble_eq_true rfl) (kc_2 V _) rfl dX3_tellCell_23 (c_X3_take V _ _ _ h23) ?_
    refine x_aload_n C 26 1 dX3_tellCell_26 rfl ?_
    refine x_iload_n C 27 0 dX3_tellCell_27 rfl ?_
    refine Y_bnd1 (fun s_28 h28 => ?_)
    refine x_callVv C 28 [.int v1_7] [] rfl tw_553 mv_X3_keepName (Nat.le_of_ble_eq_true rfl) (Nat.le_of_ble_eq_true rfl) (Nat.le_of_ble_eq_true rfl) (Nat.le_of_ble_eq_true rfl) (kc_2 V _) rfl dX3_tellCell_28 (c_X3_keepName V _ _ _ h28) ?_
    refine x_aload_n C 31 1 dX3_tellCell_31 rfl ?_
    refine x_iconst C 32 dX3_tellCell_32 ki_2 ?_
    refine Y_bnd1 (fun s_33 h33 => ?_)
    refine x_callVv C 33 [.int (2 : Int32)] [] rfl tw_541 mv_X3_take (Nat.le_of_ble_eq_true rfl) (Nat.le_of_ble_eq_true rfl) (Nat.le_of_ble_eq_true rfl) (Nat.le_of_ble_eq_true rfl) (kc_2 V _) rfl dX3_tellCell_33 (c_X3_take V _ _ _ h33) ?_
    refine x_aload_n C 36 1 dX3_tellCell_36 rfl ?_
    refine fgc_X3_29 C 37 dX3_tellCell_37 ?_
    refine Y_chk (fun hf37 => ?_)
    refine fgf_X3_103 (hf37) C 40 dX3_tellCell_40 ?_
    refine x_iload_n C 43 0 dX3_tellCell_43 rfl ?_
    refine x_aload_n C 44 1 dX3_tellCell_44 rfl ?_
    refine fgc_X3_12 C 45 dX3_tellCell_45 ?_
    refine Y_bnd1 (fun r48 h48 => ?_)
    refine x_callVi C 48 [] [.int v1_7, .ref (zA (Zc V) ((gR s_33 2 6) + 1))] rfl tw_569 mv_X6_number (Nat.le_of_ble_eq_true rfl) (Nat.le_of_ble_eq_true rfl) (Nat.le_of_ble_eq_true rfl) (Nat.le_of_ble_eq_true rfl) (kc_6 V _) rfl dX3_tellCell_48 (c_X6_number V _ _  h48) ?_
    refine x_iast C 51 (ltT_1 hf37) (kT_1 V hf37) dX3_tellCell_51 (fun _ s_51 => ?_)
    refine x_aload_n C 52 1 dX3_tellCell_52 rfl ?_
    refine x_iconst C 53 dX3_tellCell_53 ki_3 ?_
    refine Y_bnd1 (fun s_54 h54 => ?_)
    refine x_callVv C 54 [.int (3 : Int32)] [] rfl tw_541 mv_X3_take (Nat.le_of_ble_eq_true rfl) (Nat.le_of_ble_eq_true rfl) (Nat.le_of_ble_eq_true rfl) (Nat.le_of_ble_eq_true rfl) (kc_2 V _) rfl dX3_tellCell_54 (c_X3_take V _ _ _ h54) ?_
    refine x_aload_n C 57 1 dX3_tellCell_57 rfl ?_
    refine x_bipush C 58 dX3_tellCell_58 kb_59 ?_
    refine Y_bnd1 (fun s_60 h60 => ?_)
    refine x_callVv C 60 [.int (59 : Int32)] [] rfl tw_541 mv_X3_take (Nat.le_of_ble_eq_true rfl) (Nat.le_of_ble_eq_true rfl) (Nat.le_of_ble_eq_true rfl) (Nat.le_of_ble_eq_true rfl) (kc_2 V _) rfl dX3_tellCell_60 (c_X3_take V _ _ _ h60) ?_
    refine x_aload_n C 63 1 dX3_tellCell_63 rfl ?_
    refine fgc_X3_29 C 64 dX3_tellCell_64 ?_
    refine Y_chk (fun hf64 => ?_)
    refine x_dup C 67 dX3_tellCell_67 rfl ?_
    refine fgf_X3_97 (hf64) C 68 dX3_tellCell_68 ?_
    refine x_iconst C 71 dX3_tellCell_71 ki_1 ?_
    refine x_iadd C 72 dX3_tellCell_72 ?_
    refine fpf_X3_97 (hf64) C 73 dX3_tellCell_73 (fun s_73 => ?_)
    exact x_vret C R 76 dX3_tellCell_76
  · refine x_aload_n C 14 1 dX3_tellCell_14 rfl ?_
    refine x_iconst C 15 dX3_tellCell_15 ki_2 ?_
    refine Y_bnd1 (fun s_16 h16 => ?_)
    refine x_callVv C 16 [.int (2 : Int32)] [] rfl tw_533 mv_X3_fail (Nat.le_of_ble_eq_true rfl) (Nat.le_of_ble_eq_true rfl) (Nat.le_of_ble_eq_true rfl) (Nat.le_of_ble_eq_true rfl) (kc_2 V _) rfl dX3_tellCell_16 (c_X3_fail V _ _ _ h16) ?_
    exact x_vret C R 19 dX3_tellCell_19
def M_X3_putOff (σ : Wd) (v1 : Int32) : Option Wd :=
  if (32 : Int32) ≤ (gI σ 2 5) then (some σ) else (chk (ib (gI σ 2 5) 32) (lt (uI σ 5 (ix (gI σ 2 5)) v1) fun s_18 => lt (uI s_18 2 5 ((gI s_18 2 5) + (1 : Int32))) fun s_26 => some s_26))
set_option maxRecDepth 100000 in
set_option maxHeartbeats 4000000 in
theorem c_X3_putOff (V : Ct_V) (l : Launch) (σ : Wd) (v1 : Int32) {σ2 : Wd} (h : M_X3_putOff σ v1 = some σ2) : Ct l (Zc V) yX3_putOff cX3_putOff 2 none 0 0 [.ref (zA (Zc V) 2), .int v1] σ none σ2 := by
  refine Ct_intro (own := RX3) zc_ok (by decide +kernel) rfl (Nat.le_of_ble_eq_true rfl) [(0, .ref (zA (Zc V) 2)), (1, .int v1)] rfl (fun K C R hKl hnL => ?_)
  have hN := nl_of hnL
  subst hKl
  refine Y_end h ?_
  unfold M_X3_putOff
  refine x_aload_n C 0 0 dX3_putOff_0 rfl ?_
  refine fgc_X3_131 C 1 dX3_putOff_1 ?_
  refine x_bipush C 4 dX3_putOff_4 kb_32 ?_
  refine x_icmp_ge C 6 29 dX3_putOff_6 (by decide) (fun _ => ?_) (fun _ => ?_)
  · exact x_vret C R 29 dX3_putOff_29
  · refine x_aload_n C 9 0 dX3_putOff_9 rfl ?_
    refine fgc_X3_26 C 10 dX3_putOff_10 ?_
    refine x_aload_n C 13 0 dX3_putOff_13 rfl ?_
    refine fgc_X3_131 C 14 dX3_putOff_14 ?_
    refine x_iload_n C 17 1 dX3_putOff_17 rfl ?_
    refine x_iast C 18 (Nat.le_of_ble_eq_true rfl) (kc_5 V) dX3_putOff_18 (fun _ s_18 => ?_)
    refine x_aload_n C 19 0 dX3_putOff_19 rfl ?_
    refine x_dup C 20 dX3_putOff_20 rfl ?_
    refine fgc_X3_131 C 21 dX3_putOff_21 ?_
    refine x_iconst C 24 dX3_putOff_24 ki_1 ?_
    refine x_iadd C 25 dX3_putOff_25 ?_
    refine fpc_X3_131 C 26 dX3_putOff_26 (fun s_26 => ?_)
    exact x_vret C R 29 dX3_putOff_29
def M_X7_addStep (σ : Wd) (g0 : Nat) (v1 : Int32) (v2 : Int32) : Option Wd :=
  if (400 : Int32) ≤ (gI σ g0 13) then (some σ) else (chk (ib (gI σ g0 13) 400) (lt (uI σ (g0 + 7) (ix (gI σ g0 13)) v1) fun s_19 => chk (ib (gI s_19 g0 13) 400) (lt (uI s_19 (g0 + 8) (ix (gI s_19 g0 13)) v2) fun s_29 => lt (uI s_29 g0 13 ((gI s_29 g0 13) + (1 : Int32))) fun s_37 => some s_37)))
set_option maxRecDepth 100000 in
set_option maxHeartbeats 4000000 in
theorem c_X7_addStep (V : Ct_V) (l : Launch) (σ : Wd) (g0 : Nat) (hg0 : famT g0) (v1 : Int32) (v2 : Int32) {σ2 : Wd} (h : M_X7_addStep σ g0 v1 v2 = some σ2) : Ct l (Zc V) yX7_addStep cX7_addStep 3 none 0 0 [.ref (zA (Zc V) g0), .int v1, .int v2] σ none σ2 := by
  refine Ct_intro (own := RX7) zc_ok (by decide +kernel) rfl (Nat.le_of_ble_eq_true rfl) [(0, .ref (zA (Zc V) g0)), (1, .int v1), (2, .int v2)] rfl (fun K C R hKl hnL => ?_)
  have hN := nl_of hnL
  subst hKl
  refine Y_end h ?_
  unfold M_X7_addStep
  refine x_aload_n C 0 0 dX7_addStep_0 rfl ?_
  refine fgf_X7_53 (hg0) C 1 dX7_addStep_1 ?_
  refine x_sipush C 4 dX7_addStep_4 ks_400 ?_
  refine x_icmp_ge C 7 40 dX7_addStep_7 (by decide) (fun _ => ?_) (fun _ => ?_)
  · exact x_vret C R 40 dX7_addStep_40
  · refine x_aload_n C 10 0 dX7_addStep_10 rfl ?_
    refine fgf_X7_31 (hg0) C 11 dX7_addStep_11 ?_
    refine x_aload_n C 14 0 dX7_addStep_14 rfl ?_
    refine fgf_X7_53 (hg0) C 15 dX7_addStep_15 ?_
    refine x_iload_n C 18 1 dX7_addStep_18 rfl ?_
    refine x_iast C 19 (ltT_7 hg0) (kT_7 V hg0) dX7_addStep_19 (fun _ s_19 => ?_)
    refine x_aload_n C 20 0 dX7_addStep_20 rfl ?_
    refine fgf_X7_34 (hg0) C 21 dX7_addStep_21 ?_
    refine x_aload_n C 24 0 dX7_addStep_24 rfl ?_
    refine fgf_X7_53 (hg0) C 25 dX7_addStep_25 ?_
    refine x_iload_n C 28 2 dX7_addStep_28 rfl ?_
    refine x_iast C 29 (ltT_8 hg0) (kT_8 V hg0) dX7_addStep_29 (fun _ s_29 => ?_)
    refine x_aload_n C 30 0 dX7_addStep_30 rfl ?_
    refine x_dup C 31 dX7_addStep_31 rfl ?_
    refine fgf_X7_53 (hg0) C 32 dX7_addStep_32 ?_
    refine x_iconst C 35 dX7_addStep_35 ki_1 ?_
    refine x_iadd C 36 dX7_addStep_36 ?_
    refine fpf_X7_53 (hg0) C 37 dX7_addStep_37 (fun s_37 => ?_)
    exact x_vret C R 40 dX7_addStep_40
def M_X3_cellHere_J47 (σ : Wd) (t0 : Int32) : Option (Int32 × Wd) :=
  if t0 ≠ (-1 : Int32) then (some (t0, σ)) else (bnd1 (M_X6_start σ) fun r59 => bnd1 (M_X3_failLater σ (4 : Int32) r59) fun s_62 => some (t0, s_62))
def M_X3_cellHere (σ : Wd) : Option (Int32 × Wd) :=
  if (gI σ 2 7) ≠ 0 then (some ((-1 : Int32), σ)) else (bnd1 (M_X6_kind σ) fun r11 => if r11 = (2 : Int32) then (bnd1 (M_X6_name σ) fun r25 => bnd1 (M_X3_findName σ r25) fun r28 => if r28 ≠ (-1 : Int32) then (chk (ib r28 12) (M_X3_cellHere_J47 σ (gI σ 4 (ix r28)))) else (M_X3_cellHere_J47 σ (-1 : Int32))) else (some ((-1 : Int32), σ)))
set_option maxRecDepth 100000 in
set_option maxHeartbeats 4000000 in
theorem c_X3_cellHere (V : Ct_V) (l : Launch) (σ : Wd) {r : Int32} {σ2 : Wd} (h : M_X3_cellHere σ = some (r, σ2)) : Ct l (Zc V) yX3_cellHere cX3_cellHere 3 (some .int) 1 23 [.ref (zA (Zc V) 2)] σ (some (.int r)) σ2 := by
  refine Ct_intro (own := RX3) zc_ok (by decide +kernel) rfl (Nat.le_of_ble_eq_true rfl) [(0, .ref (zA (Zc V) 2))] rfl (fun K C R hKl hnL => ?_)
  have hN := nl_of hnL
  subst hKl
  refine Y_end h ?_
  unfold M_X3_cellHere
  refine x_aload_n C 0 0 dX3_cellHere_0 rfl ?_
  refine fgc_X3_45 C 1 dX3_cellHere_1 ?_
  refine x_if_ne C 4 18 dX3_cellHere_4 (by decide) (fun _ => ?_) (fun _ => ?_)
  · refine x_iconst C 18 dX3_cellHere_18 ki_m1 ?_
    exact x_iret2 C R 19 dX3_cellHere_19
  · refine x_aload_n C 7 0 dX3_cellHere_7 rfl ?_
    refine fgc_X3_12 C 8 dX3_cellHere_8 ?_
    refine Y_bnd1 (fun r11 h11 => ?_)
    refine x_callVi C 11 [] [] rfl tw_525 mv_X6_kind (Nat.le_of_ble_eq_true rfl) (Nat.le_of_ble_eq_true rfl) (Nat.le_of_ble_eq_true rfl) (Nat.le_of_ble_eq_true rfl) (kc_6 V _) rfl dX3_cellHere_11 (c_X6_kind V _ _  h11) ?_
    refine x_iconst C 14 dX3_cellHere_14 ki_2 ?_
    refine x_icmp_eq C 15 20 dX3_cellHere_15 (by decide) (fun _ => ?_) (fun _ => ?_)
    · refine x_aload_n C 20 0 dX3_cellHere_20 rfl ?_
      refine x_aload_n C 21 0 dX3_cellHere_21 rfl ?_
      refine fgc_X3_12 C 22 dX3_cellHere_22 ?_
      refine Y_bnd1 (fun r25 h25 => ?_)
      refine x_callVl C 25 [] [.ref (zA (Zc V) 2)] rfl tw_557 mv_X6_name (Nat.le_of_ble_eq_true rfl) (Nat.le_of_ble_eq_true rfl) (Nat.le_of_ble_eq_true rfl) (Nat.le_of_ble_eq_true rfl) (kc_6 V _) rfl dX3_cellHere_25 (c_X6_name V _ _  h25) ?_
      refine Y_bnd1 (fun r28 h28 => ?_)
      refine x_callVi C 28 [.long r25] [] rfl tw_561 mv_X3_findName (Nat.le_of_ble_eq_true rfl) (Nat.le_of_ble_eq_true rfl) (Nat.le_of_ble_eq_true rfl) (Nat.le_of_ble_eq_true rfl) (kc_2 V _) rfl dX3_cellHere_28 (c_X3_findName V _ _ _ h28) ?_
      refine x_istore_n C 31 (L' := [(1, .int r28), (0, .ref (zA (Zc V) 2))]) dX3_cellHere_31 rfl (hN _ (Nat.le_of_ble_eq_true rfl)) rfl ?_
      refine x_iload_n C 32 0 dX3_cellHere_32 rfl ?_
      refine x_iconst C 33 dX3_cellHere_33 ki_m1 ?_
      have hJ47 : ∀ (σ_47 : Wd) (t0_47 : Int32), Y K (Zc V) (M_X3_cellHere_J47 σ_47 t0_47) (fun q => q = (r, σ2)) σ_47 47 [(0, .ref (zA (Zc V) 2))] [.int t0_47] := by
        intro σ_47 t0_47
        unfold M_X3_cellHere_J47
        refine x_istore_n C 47 (L' := [(2, .int t0_47), (0, .ref (zA (Zc V) 2))]) dX3_cellHere_47 rfl (hN _ (Nat.le_of_ble_eq_true rfl)) rfl ?_
        refine x_iload_n C 48 0 dX3_cellHere_48 rfl ?_
        refine x_iconst C 49 dX3_cellHere_49 ki_m1 ?_
        refine x_icmp_ne C 50 65 dX3_cellHere_50 (by decide) (fun _ => ?_) (fun _ => ?_)
        · refine x_iload_n C 65 0 dX3_cellHere_65 rfl ?_
          exact x_iret2 C R 66 dX3_cellHere_66
        · refine x_aload_n C 53 1 dX3_cellHere_53 rfl ?_
          refine x_iconst C 54 dX3_cellHere_54 ki_4 ?_
          refine x_aload_n C 55 1 dX3_cellHere_55 rfl ?_
          refine fgc_X3_12 C 56 dX3_cellHere_56 ?_
          refine Y_bnd1 (fun r59 h59 => ?_)
          refine x_callVi C 59 [] [.int (4 : Int32), .ref (zA (Zc V) 2)] rfl tw_537 mv_X6_start (Nat.le_of_ble_eq_true rfl) (Nat.le_of_ble_eq_true rfl) (Nat.le_of_ble_eq_true rfl) (Nat.le_of_ble_eq_true rfl) (kc_6 V _) rfl dX3_cellHere_59 (c_X6_start V _ _  h59) ?_
          refine Y_bnd1 (fun s_62 h62 => ?_)
          refine x_callVv C 62 [.int (4 : Int32), .int r59] [] rfl tw_565 mv_X3_failLater (Nat.le_of_ble_eq_true rfl) (Nat.le_of_ble_eq_true rfl) (Nat.le_of_ble_eq_true rfl) (Nat.le_of_ble_eq_true rfl) (kc_2 V _) rfl dX3_cellHere_62 (c_X3_failLater V _ _ _ _ h62) ?_
          refine x_iload_n C 65 0 dX3_cellHere_65 rfl ?_
          exact x_iret2 C R 66 dX3_cellHere_66
      refine x_icmp_ne C 34 41 dX3_cellHere_34 (by decide) (fun _ => ?_) (fun _ => ?_)
      · refine x_aload_n C 41 1 dX3_cellHere_41 rfl ?_
        refine fgc_X3_22 C 42 dX3_cellHere_42 ?_
        refine x_iload_n C 45 0 dX3_cellHere_45 rfl ?_
        refine x_iald C 46 (Nat.le_of_ble_eq_true rfl) (kc_4 V _) dX3_cellHere_46 (fun _ => ?_)
        refine Y_sub [1] rfl ?_
        exact hJ47 _ _
      · refine x_iconst C 37 dX3_cellHere_37 ki_m1 ?_
        refine x_goto C 38 47 dX3_cellHere_38 (by decide) ?_
        refine Y_sub [1] rfl ?_
        exact hJ47 _ _
    · refine x_iconst C 18 dX3_cellHere_18 ki_m1 ?_
      exact x_iret2 C R 19 dX3_cellHere_19
def M_X3_addUnit (σ : Wd) (v1 : Int32) : Option Wd :=
  if v1 = (3 : Int32) then (chk (famT (gR σ 2 6)) (bnd1 (M_X6_number σ) fun r53 => bnd1 (M_X7_addStep σ (gR σ 2 6) (0 : Int32) r53) fun s_56 => some s_56)) else (if v1 = (108 : Int32) then (chk (famT (gR σ 2 6)) (bnd1 (M_X7_addStep σ (gR σ 2 6) (2 : Int32) (0 : Int32)) fun s_68 => some s_68)) else (if v1 = (109 : Int32) then (chk (famT (gR σ 2 6)) (bnd1 (M_X7_addStep σ (gR σ 2 6) (3 : Int32) (0 : Int32)) fun s_80 => some s_80)) else (if v1 = (110 : Int32) then (chk (famT (gR σ 2 6)) (bnd1 (M_X7_addStep σ (gR σ 2 6) (4 : Int32) (0 : Int32)) fun s_92 => some s_92)) else (chk (famT (gR σ 2 6)) (bnd2 (M_X3_cellHere σ) fun r104 s_104 => bnd1 (M_X7_addStep s_104 (gR σ 2 6) (1 : Int32) r104) fun s_107 => some s_107)))))
set_option maxRecDepth 100000 in
set_option maxHeartbeats 4000000 in
theorem c_X3_addUnit (V : Ct_V) (l : Launch) (σ : Wd) (v1 : Int32) {σ2 : Wd} (h : M_X3_addUnit σ v1 = some σ2) : Ct l (Zc V) yX3_addUnit cX3_addUnit 2 none 2 45 [.ref (zA (Zc V) 2), .int v1] σ none σ2 := by
  refine Ct_intro (own := RX3) zc_ok (by decide +kernel) rfl (Nat.le_of_ble_eq_true rfl) [(0, .ref (zA (Zc V) 2)), (1, .int v1)] rfl (fun K C R hKl hnL => ?_)
  have hN := nl_of hnL
  subst hKl
  refine Y_end h ?_
  unfold M_X3_addUnit
  refine x_iload_n C 0 1 dX3_addUnit_0 rfl ?_
  refine Y_ite (fun c1 => ?_) (fun c1_3 => ?_)
  · refine x_lsw C 1 44 dX3_addUnit_1 (by decide) (by rw [c1] <;> rfl) (by decide) ?_
    refine x_aload_n C 44 0 dX3_addUnit_44 rfl ?_
    refine fgc_X3_29 C 45 dX3_addUnit_45 ?_
    refine Y_chk (fun hf45 => ?_)
    refine x_iconst C 48 dX3_addUnit_48 ki_0 ?_
    refine x_aload_n C 49 0 dX3_addUnit_49 rfl ?_
    refine fgc_X3_12 C 50 dX3_addUnit_50 ?_
    refine Y_bnd1 (fun r53 h53 => ?_)
    refine x_callVi C 53 [] [.int (0 : Int32), .ref (zA (Zc V) (gR σ 2 6))] rfl tw_569 mv_X6_number (Nat.le_of_ble_eq_true rfl) (Nat.le_of_ble_eq_true rfl) (Nat.le_of_ble_eq_true rfl) (Nat.le_of_ble_eq_true rfl) (kc_6 V _) rfl dX3_addUnit_53 (c_X6_number V _ _  h53) ?_
    refine Y_bnd1 (fun s_56 h56 => ?_)
    refine x_callVv C 56 [.int (0 : Int32), .int r53] [] rfl tw_589 mv_X7_addStep (Nat.le_of_ble_eq_true rfl) (Nat.le_of_ble_eq_true rfl) (Nat.le_of_ble_eq_true rfl) (ltT_0 hf45) (kT_0 V hf45 _) rfl dX3_addUnit_56 (c_X7_addStep V _ _ _ hf45 _ _ h56) ?_
    refine x_goto C 59 110 dX3_addUnit_59 (by decide) ?_
    exact x_vret C R 110 dX3_addUnit_110
  refine Y_ite (fun c1 => ?_) (fun c1_108 => ?_)
  · refine x_lsw C 1 62 dX3_addUnit_1 (by decide) (by rw [c1] <;> rfl) (by decide) ?_
    refine x_aload_n C 62 0 dX3_addUnit_62 rfl ?_
    refine fgc_X3_29 C 63 dX3_addUnit_63 ?_
    refine Y_chk (fun hf63 => ?_)
    refine x_iconst C 66 dX3_addUnit_66 ki_2 ?_
    refine x_iconst C 67 dX3_addUnit_67 ki_0 ?_
    refine Y_bnd1 (fun s_68 h68 => ?_)
    refine x_callVv C 68 [.int (2 : Int32), .int (0 : Int32)] [] rfl tw_589 mv_X7_addStep (Nat.le_of_ble_eq_true rfl) (Nat.le_of_ble_eq_true rfl) (Nat.le_of_ble_eq_true rfl) (ltT_0 hf63) (kT_0 V hf63 _) rfl dX3_addUnit_68 (c_X7_addStep V _ _ _ hf63 _ _ h68) ?_
    refine x_goto C 71 110 dX3_addUnit_71 (by decide) ?_
    exact x_vret C R 110 dX3_addUnit_110
  refine Y_ite (fun c1 => ?_) (fun c1_109 => ?_)
  · refine x_lsw C 1 74 dX3_addUnit_1 (by decide) (by rw [c1] <;> rfl) (by decide) ?_
    refine x_aload_n C 74 0 dX3_addUnit_74 rfl ?_
    refine fgc_X3_29 C 75 dX3_addUnit_75 ?_
    refine Y_chk (fun hf75 => ?_)
    refine x_iconst C 78 dX3_addUnit_78 ki_3 ?_
    refine x_iconst C 79 dX3_addUnit_79 ki_0 ?_
    refine Y_bnd1 (fun s_80 h80 => ?_)
    refine x_callVv C 80 [.int (3 : Int32), .int (0 : Int32)] [] rfl tw_589 mv_X7_addStep (Nat.le_of_ble_eq_true rfl) (Nat.le_of_ble_eq_true rfl) (Nat.le_of_ble_eq_true rfl) (ltT_0 hf75) (kT_0 V hf75 _) rfl dX3_addUnit_80 (c_X7_addStep V _ _ _ hf75 _ _ h80) ?_
    refine x_goto C 83 110 dX3_addUnit_83 (by decide) ?_
    exact x_vret C R 110 dX3_addUnit_110
  refine Y_ite (fun c1 => ?_) (fun c1_110 => ?_)
  · refine x_lsw C 1 86 dX3_addUnit_1 (by decide) (by rw [c1] <;> rfl) (by decide) ?_
    refine x_aload_n C 86 0 dX3_addUnit_86 rfl ?_
    refine fgc_X3_29 C 87 dX3_addUnit_87 ?_
    refine Y_chk (fun hf87 => ?_)
    refine x_iconst C 90 dX3_addUnit_90 ki_4 ?_
    refine x_iconst C 91 dX3_addUnit_91 ki_0 ?_
    refine Y_bnd1 (fun s_92 h92 => ?_)
    refine x_callVv C 92 [.int (4 : Int32), .int (0 : Int32)] [] rfl tw_589 mv_X7_addStep (Nat.le_of_ble_eq_true rfl) (Nat.le_of_ble_eq_true rfl) (Nat.le_of_ble_eq_true rfl) (ltT_0 hf87) (kT_0 V hf87 _) rfl dX3_addUnit_92 (c_X7_addStep V _ _ _ hf87 _ _ h92) ?_
    refine x_goto C 95 110 dX3_addUnit_95 (by decide) ?_
    exact x_vret C R 110 dX3_addUnit_110
  · refine x_lsw C 1 98 dX3_addUnit_1 (by decide) (lsw_out4 (i32_toInt_ne c1_3 rfl) (i32_toInt_ne c1_108 rfl) (i32_toInt_ne c1_109 rfl) (i32_toInt_ne c1_110 rfl)) (by decide) ?_
    refine x_aload_n C 98 0 dX3_addUnit_98 rfl ?_
    refine fgc_X3_29 C 99 dX3_addUnit_99 ?_
    refine Y_chk (fun hf99 => ?_)
    refine x_iconst C 102 dX3_addUnit_102 ki_1 ?_
    refine x_aload_n C 103 0 dX3_addUnit_103 rfl ?_
    refine Y_bnd2 (fun r104 s_104 h104 => ?_)
    refine x_callVi C 104 [] [.int (1 : Int32), .ref (zA (Zc V) (gR σ 2 6))] rfl tw_593 mv_X3_cellHere (Nat.le_of_ble_eq_true rfl) (Nat.le_of_ble_eq_true rfl) (Nat.le_of_ble_eq_true rfl) (Nat.le_of_ble_eq_true rfl) (kc_2 V _) rfl dX3_addUnit_104 (c_X3_cellHere V _ _  h104) ?_
    refine Y_bnd1 (fun s_107 h107 => ?_)
    refine x_callVv C 107 [.int (1 : Int32), .int r104] [] rfl tw_589 mv_X7_addStep (Nat.le_of_ble_eq_true rfl) (Nat.le_of_ble_eq_true rfl) (Nat.le_of_ble_eq_true rfl) (ltT_0 hf99) (kT_0 V hf99 _) rfl dX3_addUnit_107 (c_X7_addStep V _ _ _ hf99 _ _ h107) ?_
    exact x_vret C R 110 dX3_addUnit_110
def M_X3_isValue (v0 : Int32) : Option Int32 :=
  if v0 = (3 : Int32) then (some (1 : Int32)) else (if v0 = (108 : Int32) then (some (1 : Int32)) else (if v0 = (109 : Int32) then (some (1 : Int32)) else (if v0 ≠ (110 : Int32) then (some (0 : Int32)) else (some (1 : Int32)))))
set_option maxRecDepth 100000 in
set_option maxHeartbeats 4000000 in
theorem c_X3_isValue (V : Ct_V) (l : Launch) (σ : Wd) (v0 : Int32) {r : Int32} (h : M_X3_isValue v0 = some r) : Ct l (Zc V) yX3_isValue cX3_isValue 1 (some .boolean) 0 0 [.int v0] σ (some (.int r)) σ := by
  refine Ct_intro (own := RX3) zc_ok (by decide +kernel) rfl (Nat.le_of_ble_eq_true rfl) [(0, .int v0)] rfl (fun K C R hKl hnL => ?_)
  have hN := nl_of hnL
  subst hKl
  refine Y_end h ?_
  unfold M_X3_isValue
  refine x_iload_n C 0 0 dX3_isValue_0 rfl ?_
  refine x_iconst C 1 dX3_isValue_1 ki_3 ?_
  refine x_icmp_eq C 2 23 dX3_isValue_2 (by decide) (fun _ => ?_) (fun _ => ?_)
  · refine x_iconst C 23 dX3_isValue_23 ki_1 ?_
    refine x_goto C 24 28 dX3_isValue_24 (by decide) ?_
    exact x_zret1 C R 28 (zb_nar (r := (1 : Int32)) (Or.inr rfl)) dX3_isValue_28
  · refine x_iload_n C 5 0 dX3_isValue_5 rfl ?_
    refine x_bipush C 6 dX3_isValue_6 kb_108 ?_
    refine x_icmp_eq C 8 23 dX3_isValue_8 (by decide) (fun _ => ?_) (fun _ => ?_)
    · refine x_iconst C 23 dX3_isValue_23 ki_1 ?_
      refine x_goto C 24 28 dX3_isValue_24 (by decide) ?_
      exact x_zret1 C R 28 (zb_nar (r := (1 : Int32)) (Or.inr rfl)) dX3_isValue_28
    · refine x_iload_n C 11 0 dX3_isValue_11 rfl ?_
      refine x_bipush C 12 dX3_isValue_12 kb_109 ?_
      refine x_icmp_eq C 14 23 dX3_isValue_14 (by decide) (fun _ => ?_) (fun _ => ?_)
      · refine x_iconst C 23 dX3_isValue_23 ki_1 ?_
        refine x_goto C 24 28 dX3_isValue_24 (by decide) ?_
        exact x_zret1 C R 28 (zb_nar (r := (1 : Int32)) (Or.inr rfl)) dX3_isValue_28
      · refine x_iload_n C 17 0 dX3_isValue_17 rfl ?_
        refine x_bipush C 18 dX3_isValue_18 kb_110 ?_
        refine x_icmp_ne C 20 27 dX3_isValue_20 (by decide) (fun _ => ?_) (fun _ => ?_)
        · refine x_iconst C 27 dX3_isValue_27 ki_0 ?_
          exact x_zret1 C R 28 (zb_nar (r := (0 : Int32)) (Or.inl rfl)) dX3_isValue_28
        · refine x_iconst C 23 dX3_isValue_23 ki_1 ?_
          refine x_goto C 24 28 dX3_isValue_24 (by decide) ?_
          exact x_zret1 C R 28 (zb_nar (r := (1 : Int32)) (Or.inr rfl)) dX3_isValue_28
def M_X3_isOperator (v0 : Int32) : Option Int32 :=
  if v0 = (43 : Int32) then (some (1 : Int32)) else (if v0 = (45 : Int32) then (some (1 : Int32)) else (if v0 = (42 : Int32) then (some (1 : Int32)) else (if v0 ≠ (47 : Int32) then (some (0 : Int32)) else (some (1 : Int32)))))
set_option maxRecDepth 100000 in
set_option maxHeartbeats 4000000 in
theorem c_X3_isOperator (V : Ct_V) (l : Launch) (σ : Wd) (v0 : Int32) {r : Int32} (h : M_X3_isOperator v0 = some r) : Ct l (Zc V) yX3_isOperator cX3_isOperator 1 (some .boolean) 0 0 [.int v0] σ (some (.int r)) σ := by
  refine Ct_intro (own := RX3) zc_ok (by decide +kernel) rfl (Nat.le_of_ble_eq_true rfl) [(0, .int v0)] rfl (fun K C R hKl hnL => ?_)
  have hN := nl_of hnL
  subst hKl
  refine Y_end h ?_
  unfold M_X3_isOperator
  refine x_iload_n C 0 0 dX3_isOperator_0 rfl ?_
  refine x_bipush C 1 dX3_isOperator_1 kb_43 ?_
  refine x_icmp_eq C 3 24 dX3_isOperator_3 (by decide) (fun _ => ?_) (fun _ => ?_)
  · refine x_iconst C 24 dX3_isOperator_24 ki_1 ?_
    refine x_goto C 25 29 dX3_isOperator_25 (by decide) ?_
    exact x_zret1 C R 29 (zb_nar (r := (1 : Int32)) (Or.inr rfl)) dX3_isOperator_29
  · refine x_iload_n C 6 0 dX3_isOperator_6 rfl ?_
    refine x_bipush C 7 dX3_isOperator_7 kb_45 ?_
    refine x_icmp_eq C 9 24 dX3_isOperator_9 (by decide) (fun _ => ?_) (fun _ => ?_)
    · refine x_iconst C 24 dX3_isOperator_24 ki_1 ?_
      refine x_goto C 25 29 dX3_isOperator_25 (by decide) ?_
      exact x_zret1 C R 29 (zb_nar (r := (1 : Int32)) (Or.inr rfl)) dX3_isOperator_29
    · refine x_iload_n C 12 0 dX3_isOperator_12 rfl ?_
      refine x_bipush C 13 dX3_isOperator_13 kb_42 ?_
      refine x_icmp_eq C 15 24 dX3_isOperator_15 (by decide) (fun _ => ?_) (fun _ => ?_)
      · refine x_iconst C 24 dX3_isOperator_24 ki_1 ?_
        refine x_goto C 25 29 dX3_isOperator_25 (by decide) ?_
        exact x_zret1 C R 29 (zb_nar (r := (1 : Int32)) (Or.inr rfl)) dX3_isOperator_29
      · refine x_iload_n C 18 0 dX3_isOperator_18 rfl ?_
        refine x_bipush C 19 dX3_isOperator_19 kb_47 ?_
        refine x_icmp_ne C 21 28 dX3_isOperator_21 (by decide) (fun _ => ?_) (fun _ => ?_)
        · refine x_iconst C 28 dX3_isOperator_28 ki_0 ?_
          exact x_zret1 C R 29 (zb_nar (r := (0 : Int32)) (Or.inl rfl)) dX3_isOperator_29
        · refine x_iconst C 24 dX3_isOperator_24 ki_1 ?_
          refine x_goto C 25 29 dX3_isOperator_25 (by decide) ?_
          exact x_zret1 C R 29 (zb_nar (r := (1 : Int32)) (Or.inr rfl)) dX3_isOperator_29
def M_X3_rankOf (v0 : Int32) : Option Int32 :=
  if v0 ≠ (40 : Int32) then (if v0 = (42 : Int32) then (some (2 : Int32)) else (if v0 ≠ (47 : Int32) then (some (1 : Int32)) else (some (2 : Int32)))) else (some (0 : Int32))
set_option maxRecDepth 100000 in
set_option maxHeartbeats 4000000 in
theorem c_X3_rankOf (V : Ct_V) (l : Launch) (σ : Wd) (v0 : Int32) {r : Int32} (h : M_X3_rankOf v0 = some r) : Ct l (Zc V) yX3_rankOf cX3_rankOf 1 (some .int) 0 0 [.int v0] σ (some (.int r)) σ := by
  refine Ct_intro (own := RX3) zc_ok (by decide +kernel) rfl (Nat.le_of_ble_eq_true rfl) [(0, .int v0)] rfl (fun K C R hKl hnL => ?_)
  have hN := nl_of hnL
  subst hKl
  refine Y_end h ?_
  unfold M_X3_rankOf
  refine x_iload_n C 0 0 dX3_rankOf_0 rfl ?_
  refine x_bipush C 1 dX3_rankOf_1 kb_40 ?_
  refine x_icmp_ne C 3 8 dX3_rankOf_3 (by decide) (fun _ => ?_) (fun _ => ?_)
  · refine x_iload_n C 8 0 dX3_rankOf_8 rfl ?_
    refine x_bipush C 9 dX3_rankOf_9 kb_42 ?_
    refine x_icmp_eq C 11 20 dX3_rankOf_11 (by decide) (fun _ => ?_) (fun _ => ?_)
    · refine x_iconst C 20 dX3_rankOf_20 ki_2 ?_
      refine x_goto C 21 25 dX3_rankOf_21 (by decide) ?_
      exact x_iret1 C R 25 dX3_rankOf_25
    · refine x_iload_n C 14 0 dX3_rankOf_14 rfl ?_
      refine x_bipush C 15 dX3_rankOf_15 kb_47 ?_
      refine x_icmp_ne C 17 24 dX3_rankOf_17 (by decide) (fun _ => ?_) (fun _ => ?_)
      · refine x_iconst C 24 dX3_rankOf_24 ki_1 ?_
        exact x_iret1 C R 25 dX3_rankOf_25
      · refine x_iconst C 20 dX3_rankOf_20 ki_2 ?_
        refine x_goto C 21 25 dX3_rankOf_21 (by decide) ?_
        exact x_iret1 C R 25 dX3_rankOf_25
  · refine x_iconst C 6 dX3_rankOf_6 ki_0 ?_
    exact x_iret1 C R 7 dX3_rankOf_7
def M_X3_letOut_L0 (v1 : Int32) (σ : Wd) : Option ((Wd) ⊕ (Wd)) :=
  if (gI σ 2 5) ≤ 0 then (some (.inr σ)) else (chk (ib ((gI σ 2 5) - (1 : Int32)) 32) (bnd1 (M_X3_rankOf (gI σ 5 (ix ((gI σ 2 5) - (1 : Int32))))) fun r18 => if r18 < v1 then (some (.inr σ)) else (lt (uI σ 2 5 ((gI σ 2 5) - (1 : Int32))) fun s_32 => chk (famT (gR s_32 2 6)) (chk (ib (gI s_32 2 5) 32) (bnd1 (M_X7_addStep s_32 (gR s_32 2 6) (5 : Int32) (gI s_32 5 (ix (gI s_32 2 5)))) fun s_49 => some (.inl s_49))))))
def M_X3_letOut (σ : Wd) (v1 : Int32) : Option Wd :=
  bnd1 (iter (fun s : Wd => M_X3_letOut_L0 v1 s) FU σ) (un1 fun sx_0 => (some sx_0))
set_option maxRecDepth 100000 in
set_option maxHeartbeats 4000000 in
theorem c_X3_letOut (V : Ct_V) (l : Launch) (σ : Wd) (v1 : Int32) {σ2 : Wd} (h : M_X3_letOut σ v1 = some σ2) : Ct l (Zc V) yX3_letOut cX3_letOut 2 none 1 22 [.ref (zA (Zc V) 2), .int v1] σ none σ2 := by
  refine Ct_intro (own := RX3) zc_ok (by decide +kernel) rfl (Nat.le_of_ble_eq_true rfl) [(0, .ref (zA (Zc V) 2)), (1, .int v1)] rfl (fun K C R hKl hnL => ?_)
  have hN := nl_of hnL
  subst hKl
  refine Y_end h ?_
  unfold M_X3_letOut
  refine x_loop 0 (fun s : Wd => s) (fun s : Wd => [(0, .ref (zA (Zc V) 2)), (1, .int v1)]) (fun E0 hb0 hx0 s => ?_) FU σ
  obtain ⟨s_0, rfl⟩ : ∃ z, z = s := ⟨s, rfl⟩
  show Y K (Zc V) (M_X3_letOut_L0 v1 s_0) E0 s_0 0 [(0, .ref (zA (Zc V) 2)), (1, .int v1)] []
  unfold M_X3_letOut_L0
  refine x_aload_n C 0 0 dX3_letOut_0 rfl ?_
  refine fgc_X3_131 C 1 dX3_letOut_1 ?_
  refine x_if_le C 4 55 dX3_letOut_4 (by decide) (fun _ => ?_) (fun _ => ?_)
  · refine x_ex1 hx0 s_0 ?_
    exact x_vret C R 55 dX3_letOut_55
  · refine x_aload_n C 7 0 dX3_letOut_7 rfl ?_
    refine fgc_X3_26 C 8 dX3_letOut_8 ?_
    refine x_aload_n C 11 0 dX3_letOut_11 rfl ?_
    refine fgc_X3_131 C 12 dX3_letOut_12 ?_
    refine x_iconst C 15 dX3_letOut_15 ki_1 ?_
    refine x_isub C 16 dX3_letOut_16 ?_
    refine x_iald C 17 (Nat.le_of_ble_eq_true rfl) (kc_5 V _) dX3_letOut_17 (fun _ => ?_)
    refine Y_bnd1 (fun r18 h18 => ?_)
    refine x_callSi C 18 [.int (gI s_0 5 (ix ((gI s_0 2 5) - (1 : Int32))))] [] rfl tw_603 ms_X3_rankOf (Nat.le_of_ble_eq_true rfl) (Nat.le_of_ble_eq_true rfl) (Nat.le_of_ble_eq_true rfl) dX3_letOut_18 (c_X3_rankOf V _ _ _ h18) ?_
    refine x_iload_n C 21 1 dX3_letOut_21 rfl ?_
    refine x_icmp_lt C 22 55 dX3_letOut_22 (by decide) (fun _ => ?_) (fun _ => ?_)
    · refine x_ex1 hx0 s_0 ?_
      exact x_vret C R 55 dX3_letOut_55
    · refine x_aload_n C 25 0 dX3_letOut_25 rfl ?_
      refine x_dup C 26 dX3_letOut_26 rfl ?_
      refine fgc_X3_131 C 27 dX3_letOut_27 ?_
      refine x_iconst C 30 dX3_letOut_30 ki_1 ?_
      refine x_isub C 31 dX3_letOut_31 ?_
      refine fpc_X3_131 C 32 dX3_letOut_32 (fun s_32 => ?_)
      refine x_aload_n C 35 0 dX3_letOut_35 rfl ?_
      refine fgc_X3_29 C 36 dX3_letOut_36 ?_
      refine Y_chk (fun hf36 => ?_)
      refine x_iconst C 39 dX3_letOut_39 ki_5 ?_
      refine x_aload_n C 40 0 dX3_letOut_40 rfl ?_
      refine fgc_X3_26 C 41 dX3_letOut_41 ?_
      refine x_aload_n C 44 0 dX3_letOut_44 rfl ?_
      refine fgc_X3_131 C 45 dX3_letOut_45 ?_
      refine x_iald C 48 (Nat.le_of_ble_eq_true rfl) (kc_5 V _) dX3_letOut_48 (fun _ => ?_)
      refine Y_bnd1 (fun s_49 h49 => ?_)
      refine x_callVv C 49 [.int (5 : Int32), .int (gI s_32 5 (ix (gI s_32 2 5)))] [] rfl tw_589 mv_X7_addStep (Nat.le_of_ble_eq_true rfl) (Nat.le_of_ble_eq_true rfl) (Nat.le_of_ble_eq_true rfl) (ltT_0 hf36) (kT_0 V hf36 _) rfl dX3_letOut_49 (c_X7_addStep V _ _ _ hf36 _ _ h49) ?_
      refine x_goto C 52 0 dX3_letOut_52 (by decide) ?_
      exact x_back s_49 (hb0 s_49)
def M_X3_closeNest (σ : Wd) : Option Wd :=
  bnd1 (M_X3_letOut σ (1 : Int32)) fun s_2 => if (gI s_2 2 5) ≤ 0 then (some s_2) else (lt (uI s_2 2 5 ((gI s_2 2 5) - (1 : Int32))) fun s_19 => some s_19)
set_option maxRecDepth 100000 in
set_option maxHeartbeats 4000000 in
theorem c_X3_closeNest (V : Ct_V) (l : Launch) (σ : Wd) {σ2 : Wd} (h : M_X3_closeNest σ = some σ2) : Ct l (Zc V) yX3_closeNest cX3_closeNest 1 none 2 43 [.ref (zA (Zc V) 2)] σ none σ2 := by
  refine Ct_intro (own := RX3) zc_ok (by decide +kernel) rfl (Nat.le_of_ble_eq_true rfl) [(0, .ref (zA (Zc V) 2))] rfl (fun K C R hKl hnL => ?_)
  have hN := nl_of hnL
  subst hKl
  refine Y_end h ?_
  unfold M_X3_closeNest
  refine x_aload_n C 0 0 dX3_closeNest_0 rfl ?_
  refine x_iconst C 1 dX3_closeNest_1 ki_1 ?_
  refine Y_bnd1 (fun s_2 h2 => ?_)
  refine x_callVv C 2 [.int (1 : Int32)] [] rfl tw_606 mv_X3_letOut (Nat.le_of_ble_eq_true rfl) (Nat.le_of_ble_eq_true rfl) (Nat.le_of_ble_eq_true rfl) (Nat.le_of_ble_eq_true rfl) (kc_2 V _) rfl dX3_closeNest_2 (c_X3_letOut V _ _ _ h2) ?_
  refine x_aload_n C 5 0 dX3_closeNest_5 rfl ?_
  refine fgc_X3_131 C 6 dX3_closeNest_6 ?_
  refine x_if_le C 9 22 dX3_closeNest_9 (by decide) (fun _ => ?_) (fun _ => ?_)
  · exact x_vret C R 22 dX3_closeNest_22
  · refine x_aload_n C 12 0 dX3_closeNest_12 rfl ?_
    refine x_dup C 13 dX3_closeNest_13 rfl ?_
    refine fgc_X3_131 C 14 dX3_closeNest_14 ?_
    refine x_iconst C 17 dX3_closeNest_17 ki_1 ?_
    refine x_isub C 18 dX3_closeNest_18 ?_
    refine fpc_X3_131 C 19 dX3_closeNest_19 (fun s_19 => ?_)
    exact x_vret C R 22 dX3_closeNest_22
def M_X3_takeExpression_J196 (σ : Wd) (v1 : Int32) : Option Wd :=
  bnd1 (M_X3_letOut σ (1 : Int32)) fun s_198 => chk (famT (gR s_198 2 6)) (chk (famT (gR s_198 2 6)) (chk (ib v1 24) (lt (uI s_198 ((gR s_198 2 6) + 6) (ix v1) (gI s_198 (gR s_198 2 6) 13)) fun s_216 => some s_216)))
def M_X3_takeExpression_J125 (σ : Wd) (v1 : Int32) (v2 : Int32) (v4 : Int32) (v5 : Int32) (t0 : Int32) : Option ((Int32 × Int32 × Int32 × Int32 × Wd) ⊕ (Wd)) :=
  bnd1 (M_X3_take σ t0) fun s_125 => lt (v5 + (1 : Int32)) fun v5_190 => some (.inl (v2, (0 : Int32), v4, v5_190, s_125))
def M_X3_takeExpression_J100 (σ : Wd) (v1 : Int32) (v2 : Int32) (v3 : Int32) (v4 : Int32) (v5 : Int32) (v6 : Int32) : Option ((Int32 × Int32 × Int32 × Int32 × Wd) ⊕ (Wd)) :=
  if v3 = 0 then (bnd1 (M_X3_isOperator v6) fun r135 => if r135 = 0 then (if v2 ≤ 0 then (lt (v5 + (1 : Int32)) fun v5_190 => some (.inl (v2, v3, (0 : Int32), v5_190, σ))) else (lt (v2 + (-1 : Int32)) fun v2_171 => bnd1 (M_X3_closeNest σ) fun s_175 => bnd1 (M_X3_take s_175 (41 : Int32)) fun s_181 => lt (v5 + (1 : Int32)) fun v5_190 => some (.inl (v2_171, v3, v4, v5_190, s_181)))) else (bnd1 (M_X3_rankOf v6) fun r144 => bnd1 (M_X3_letOut σ r144) fun s_147 => bnd1 (M_X3_putOff s_147 v6) fun s_153 => bnd1 (M_X3_take s_153 v6) fun s_159 => lt (v5 + (1 : Int32)) fun v5_190 => some (.inl (v2, (1 : Int32), v4, v5_190, s_159)))) else (bnd1 (M_X3_addUnit σ v6) fun s_107 => bnd1 (M_X3_isValue v6) fun r113 => if r113 = 0 then (M_X3_takeExpression_J125 s_107 v1 v2 v4 v5 (2 : Int32)) else (M_X3_takeExpression_J125 s_107 v1 v2 v4 v5 v6))
def M_X3_takeExpression_J82 (σ : Wd) (v1 : Int32) (v2 : Int32) (v3 : Int32) (v4 : Int32) (v5 : Int32) (v6 : Int32) : Option ((Int32 × Int32 × Int32 × Int32 × Wd) ⊕ (Wd)) :=
  lt (v2 + (1 : Int32)) fun v2_82 => bnd1 (M_X3_putOff σ v6) fun s_88 => bnd1 (M_X3_take s_88 v6) fun s_94 => lt (v5 + (1 : Int32)) fun v5_190 => some (.inl (v2_82, v3, v4, v5_190, s_94))
def M_X3_takeExpression_L31 (v1 : Int32) (v2 : Int32) (v3 : Int32) (v4 : Int32) (v5 : Int32) (σ : Wd) : Option ((Int32 × Int32 × Int32 × Int32 × Wd) ⊕ (Wd)) :=
  if (400 : Int32) < v5 then (some (.inr σ)) else (if v4 = 0 then (some (.inr σ)) else (if (gI σ 2 7) ≠ 0 then (some (.inr σ)) else (bnd1 (M_X6_kind σ) fun r55 => if v3 = 0 then (M_X3_takeExpression_J100 σ v1 v2 v3 v4 v5 r55) else (if r55 ≠ (40 : Int32) then (M_X3_takeExpression_J100 σ v1 v2 v3 v4 v5 r55) else (if v2 < (6 : Int32) then (M_X3_takeExpression_J82 σ v1 v2 v3 v4 v5 r55) else (bnd1 (M_X3_fail σ (2 : Int32)) fun s_79 => M_X3_takeExpression_J82 s_79 v1 v2 v3 v4 v5 r55))))))
def M_X3_takeExpression (σ : Wd) (v1 : Int32) : Option Wd :=
  chk (famT (gR σ 2 6)) (chk (famT (gR σ 2 6)) (chk (ib v1 24) (lt (uI σ ((gR σ 2 6) + 5) (ix v1) (gI σ (gR σ 2 6) 13)) fun s_15 => lt (uI s_15 2 5 (0 : Int32)) fun s_18 => bnd1 (iter (fun s : Int32 × Int32 × Int32 × Int32 × Wd => M_X3_takeExpression_L31 v1 s.1 s.2.1 s.2.2.1 s.2.2.2.1 s.2.2.2.2) FU ((0 : Int32), (1 : Int32), (1 : Int32), (0 : Int32), s_18)) (un1 fun sx_31 => (M_X3_takeExpression_J196 sx_31 v1)))))
set_option maxRecDepth 100000 in
set_option maxHeartbeats 4000000 in
theorem c_X3_takeExpression (V : Ct_V) (l : Launch) (σ : Wd) (v1 : Int32) {σ2 : Wd} (h : M_X3_takeExpression σ v1 = some σ2) : Ct l (Zc V) yX3_takeExpression cX3_takeExpression 7 none 3 66 [.ref (zA (Zc V) 2), .int v1] σ none σ2 := by
  refine Ct_intro (own := RX3) zc_ok (by decide +kernel) rfl (Nat.le_of_ble_eq_true rfl) [(0, .ref (zA (Zc V) 2)), (1, .int v1)] rfl (fun K C R hKl hnL => ?_)
  have hN := nl_of hnL
  subst hKl
  refine Y_end h ?_
  unfold M_X3_takeExpression
  refine x_aload_n C 0 0 dX3_takeExpression_0 rfl ?_
  refine fgc_X3_29 C 1 dX3_takeExpression_1 ?_
  refine Y_chk (fun hf1 => ?_)
  refine fgf_X3_125 (hf1) C 4 dX3_takeExpression_4 ?_
  refine x_iload_n C 7 1 dX3_takeExpression_7 rfl ?_
  refine x_aload_n C 8 0 dX3_takeExpression_8 rfl ?_
  refine fgc_X3_29 C 9 dX3_takeExpression_9 ?_
  refine Y_chk (fun hf9 => ?_)
  refine fgf_X3_128 (hf9) C 12 dX3_takeExpression_12 ?_
  refine x_iast C 15 (ltT_5 hf1) (kT_5 V hf1) dX3_takeExpression_15 (fun _ s_15 => ?_)
  refine x_aload_n C 16 0 dX3_takeExpression_16 rfl ?_
  refine x_iconst C 17 dX3_takeExpression_17 ki_0 ?_
  refine fpc_X3_131 C 18 dX3_takeExpression_18 (fun s_18 => ?_)
  refine x_iconst C 21 dX3_takeExpression_21 ki_0 ?_
  refine x_istore_n C 22 (L' := [(2, .int (0 : Int32)), (0, .ref (zA (Zc V) 2)), (1, .int v1)]) dX3_takeExpression_22 rfl (hN _ (Nat.le_of_ble_eq_true rfl)) rfl ?_
  refine x_iconst C 23 dX3_takeExpression_23 ki_1 ?_
  refine x_istore_n C 24 (L' := [(3, .int (1 : Int32)), (2, .int (0 : Int32)), (0, .ref (zA (Zc V) 2)), (1, .int v1)]) dX3_takeExpression_24 rfl (hN _ (Nat.le_of_ble_eq_true rfl)) rfl ?_
  refine x_iconst C 25 dX3_takeExpression_25 ki_1 ?_
  refine x_istore C 26 (L' := [(4, .int (1 : Int32)), (3, .int (1 : Int32)), (2, .int (0 : Int32)), (0, .ref (zA (Zc V) 2)), (1, .int v1)]) dX3_takeExpression_26 (hN _ (Nat.le_of_ble_eq_true rfl)) rfl ?_
  refine x_iconst C 28 dX3_takeExpression_28 ki_0 ?_
  refine x_istore C 29 (L' := [(5, .int (0 : Int32)), (4, .int (1 : Int32)), (3, .int (1 : Int32)), (2, .int (0 : Int32)), (0, .ref (zA (Zc V) 2)), (1, .int v1)]) dX3_takeExpression_29 (hN _ (Nat.le_of_ble_eq_true rfl)) rfl ?_
  have hJ196 : ∀ (σ_196 : Wd) (v1_196 : Int32), Y K (Zc V) (M_X3_takeExpression_J196 σ_196 v1_196) (fun q => q = σ2) σ_196 196 [(0, .ref (zA (Zc V) 2)), (1, .int v1_196)] [] := by
    intro σ_196 v1_196
    unfold M_X3_takeExpression_J196
    refine x_aload_n C 196 0 dX3_takeExpression_196 rfl ?_
    refine x_iconst C 197 dX3_takeExpression_197 ki_1 ?_
    refine Y_bnd1 (fun s_198 h198 => ?_)
    refine x_callVv C 198 [.int (1 : Int32)] [] rfl tw_606 mv_X3_letOut (Nat.le_of_ble_eq_true rfl) (Nat.le_of_ble_eq_true rfl) (Nat.le_of_ble_eq_true rfl) (Nat.le_of_ble_eq_true rfl) (kc_2 V _) rfl dX3_takeExpression_198 (c_X3_letOut V _ _ _ h198) ?_
    refine x_aload_n C 201 0 dX3_takeExpression_201 rfl ?_
    refine fgc_X3_29 C 202 dX3_takeExpression_202 ?_
    refine Y_chk (fun hf202 => ?_)
    refine fgf_X3_157 (hf202) C 205 dX3_takeExpression_205 ?_
    refine x_iload_n C 208 1 dX3_takeExpression_208 rfl ?_
    refine x_aload_n C 209 0 dX3_takeExpression_209 rfl ?_
    refine fgc_X3_29 C 210 dX3_takeExpression_210 ?_
    refine Y_chk (fun hf210 => ?_)
    refine fgf_X3_128 (hf210) C 213 dX3_takeExpression_213 ?_
    refine x_iast C 216 (ltT_6 hf202) (kT_6 V hf202) dX3_takeExpression_216 (fun _ s_216 => ?_)
    exact x_vret C R 217 dX3_takeExpression_217
  refine Y_sub [4, 5, 3, 2, 1, 0] rfl ?_
  refine x_loop 31 (fun s : Int32 × Int32 × Int32 × Int32 × Wd => s.2.2.2.2) (fun s : Int32 × Int32 × Int32 × Int32 × Wd => [(0, .ref (zA (Zc V) 2)), (1, .int v1), (2, .int s.1), (3, .int s.2.1), (4, .int s.2.2.1), (5, .int s.2.2.2.1)]) (fun E31 hb31 hx31 s => ?_) FU ((0 : Int32), (1 : Int32), (1 : Int32), (0 : Int32), s_18)
  obtain ⟨v2_31, v3_31, v4_31, v5_31, s_31⟩ := s
  show Y K (Zc V) (M_X3_takeExpression_L31 v1 v2_31 v3_31 v4_31 v5_31 s_31) E31 s_31 31 [(0, .ref (zA (Zc V) 2)), (1, .int v1), (2, .int v2_31), (3, .int v3_31), (4, .int v4_31), (5, .int v5_31)] []
  unfold M_X3_takeExpression_L31
  refine x_iload C 31 5 dX3_takeExpression_31 rfl ?_
  refine x_sipush C 33 dX3_takeExpression_33 ks_400 ?_
  refine x_icmp_gt C 36 196 dX3_takeExpression_36 (by decide) (fun _ => ?_) (fun _ => ?_)
  · refine x_ex1 hx31 s_31 ?_
    refine Y_sub [0, 1] rfl ?_
    exact hJ196 _ _
  · refine x_iload C 39 4 dX3_takeExpression_39 rfl ?_
    refine x_if_eq C 41 196 dX3_takeExpression_41 (by decide) (fun _ => ?_) (fun _ => ?_)
    · refine x_ex1 hx31 s_31 ?_
      refine Y_sub [0, 1] rfl ?_
      exact hJ196 _ _
    · refine x_aload_n C 44 0 dX3_takeExpression_44 rfl ?_
      refine fgc_X3_45 C 45 dX3_takeExpression_45 ?_
      refine x_if_ne C 48 196 dX3_takeExpression_48 (by decide) (fun _ => ?_) (fun _ => ?_)
      · refine x_ex1 hx31 s_31 ?_
        refine Y_sub [0, 1] rfl ?_
        exact hJ196 _ _
      · refine x_aload_n C 51 0 dX3_takeExpression_51 rfl ?_
        refine fgc_X3_12 C 52 dX3_takeExpression_52 ?_
        refine Y_bnd1 (fun r55 h55 => ?_)
        refine x_callVi C 55 [] [] rfl tw_525 mv_X6_kind (Nat.le_of_ble_eq_true rfl) (Nat.le_of_ble_eq_true rfl) (Nat.le_of_ble_eq_true rfl) (Nat.le_of_ble_eq_true rfl) (kc_6 V _) rfl dX3_takeExpression_55 (c_X6_kind V _ _  h55) ?_
        refine x_istore C 58 (L' := [(6, .int r55), (0, .ref (zA (Zc V) 2)), (1, .int v1), (2, .int v2_31), (3, .int v3_31), (4, .int v4_31), (5, .int v5_31)]) dX3_takeExpression_58 (hN _ (Nat.le_of_ble_eq_true rfl)) rfl ?_
        refine x_iload_n C 60 4 dX3_takeExpression_60 rfl ?_
        have hJ100 : ∀ (σ_100 : Wd) (v2_100 : Int32) (v3_100 : Int32) (v4_100 : Int32) (v5_100 : Int32) (v6_100 : Int32), Y K (Zc V) (M_X3_takeExpression_J100 σ_100 v1 v2_100 v3_100 v4_100 v5_100 v6_100) E31 σ_100 100 [(0, .ref (zA (Zc V) 2)), (1, .int v1), (2, .int v2_100), (3, .int v3_100), (4, .int v4_100), (5, .int v5_100), (6, .int v6_100)] [] := by
          intro σ_100 v2_100 v3_100 v4_100 v5_100 v6_100
          unfold M_X3_takeExpression_J100
          refine x_iload_n C 100 3 dX3_takeExpression_100 rfl ?_
          refine x_if_eq C 101 133 dX3_takeExpression_101 (by decide) (fun _ => ?_) (fun _ => ?_)
          · refine x_iload C 133 6 dX3_takeExpression_133 rfl ?_
            refine Y_bnd1 (fun r135 h135 => ?_)
            refine x_callSi C 135 [.int v6_100] [] rfl tw_600 ms_X3_isOperator (Nat.le_of_ble_eq_true rfl) (Nat.le_of_ble_eq_true rfl) (Nat.le_of_ble_eq_true rfl) dX3_takeExpression_135 (c_X3_isOperator V _ _ _ h135) ?_
            refine x_if_eq C 138 167 dX3_takeExpression_138 (by decide) (fun _ => ?_) (fun _ => ?_)
            · refine x_iload_n C 167 2 dX3_takeExpression_167 rfl ?_
              refine x_if_le C 168 187 dX3_takeExpression_168 (by decide) (fun _ => ?_) (fun _ => ?_)
              · refine x_iconst C 187 dX3_takeExpression_187 ki_0 ?_
                refine x_istore C 188 (L' := [(4, .int (0 : Int32)), (0, .ref (zA (Zc V) 2)), (1, .int v1), (2, .int v2_100), (3, .int v3_100), (5, .int v5_100), (6, .int v6_100)]) dX3_takeExpression_188 (hN _ (Nat.le_of_ble_eq_true rfl)) rfl ?_
                refine x_iinct C 190 5 (1 : Int32) (fun v5_190 => [(5, .int v5_190), (4, .int (0 : Int32)), (0, .ref (zA (Zc V) 2)), (1, .int v1), (2, .int v2_100), (3, .int v3_100), (6, .int v6_100)]) dX3_takeExpression_190 rfl ki_1 (hN _ (Nat.le_of_ble_eq_true rfl)) (fun _ => rfl) (fun v5_190 => ?_)
                refine x_goto C 193 31 dX3_takeExpression_193 (by decide) ?_
                refine Y_sub [2, 3, 4, 5, 1, 0] rfl ?_
                exact x_back (v2_100, v3_100, (0 : Int32), v5_190, σ_100) (hb31 (v2_100, v3_100, (0 : Int32), v5_190, σ_100))
              · refine x_iinct C 171 2 (-1 : Int32) (fun v2_171 => [(2, .int v2_171), (0, .ref (zA (Zc V) 2)), (1, .int v1), (3, .int v3_100), (4, .int v4_100), (5, .int v5_100), (6, .int v6_100)]) dX3_takeExpression_171 rfl ki_m1 (hN _ (Nat.le_of_ble_eq_true rfl)) (fun _ => rfl) (fun v2_171 => ?_)
                refine x_aload_n C 174 1 dX3_takeExpression_174 rfl ?_
                refine Y_bnd1 (fun s_175 h175 => ?_)
                refine x_callVv C 175 [] [] rfl tw_610 mv_X3_closeNest (Nat.le_of_ble_eq_true rfl) (Nat.le_of_ble_eq_true rfl) (Nat.le_of_ble_eq_true rfl) (Nat.le_of_ble_eq_true rfl) (kc_2 V _) rfl dX3_takeExpression_175 (c_X3_closeNest V _ _  h175) ?_
                refine x_aload_n C 178 1 dX3_takeExpression_178 rfl ?_
                refine x_bipush C 179 dX3_takeExpression_179 kb_41 ?_
                refine Y_bnd1 (fun s_181 h181 => ?_)
                refine x_callVv C 181 [.int (41 : Int32)] [] rfl tw_541 mv_X3_take (Nat.le_of_ble_eq_true rfl) (Nat.le_of_ble_eq_true rfl) (Nat.le_of_ble_eq_true rfl) (Nat.le_of_ble_eq_true rfl) (kc_2 V _) rfl dX3_takeExpression_181 (c_X3_take V _ _ _ h181) ?_
                refine x_goto C 184 190 dX3_takeExpression_184 (by decide) ?_
                refine x_iinct C 190 5 (1 : Int32) (fun v5_190 => [(5, .int v5_190), (2, .int v2_171), (0, .ref (zA (Zc V) 2)), (1, .int v1), (3, .int v3_100), (4, .int v4_100), (6, .int v6_100)]) dX3_takeExpression_190 rfl ki_1 (hN _ (Nat.le_of_ble_eq_true rfl)) (fun _ => rfl) (fun v5_190 => ?_)
                refine x_goto C 193 31 dX3_takeExpression_193 (by decide) ?_
                refine Y_sub [2, 3, 1, 4, 5, 0] rfl ?_
                exact x_back (v2_171, v3_100, v4_100, v5_190, s_181) (hb31 (v2_171, v3_100, v4_100, v5_190, s_181))
            · refine x_aload_n C 141 0 dX3_takeExpression_141 rfl ?_
              refine x_iload C 142 6 dX3_takeExpression_142 rfl ?_
              refine Y_bnd1 (fun r144 h144 => ?_)
              refine x_callSi C 144 [.int v6_100] [.ref (zA (Zc V) 2)] rfl tw_603 ms_X3_rankOf (Nat.le_of_ble_eq_true rfl) (Nat.le_of_ble_eq_true rfl) (Nat.le_of_ble_eq_true rfl) dX3_takeExpression_144 (c_X3_rankOf V _ _ _ h144) ?_
              refine Y_bnd1 (fun s_147 h147 => ?_)
              refine x_callVv C 147 [.int r144] [] rfl tw_606 mv_X3_letOut (Nat.le_of_ble_eq_true rfl) (Nat.le_of_ble_eq_true rfl) (Nat.le_of_ble_eq_true rfl) (Nat.le_of_ble_eq_true rfl) (kc_2 V _) rfl dX3_takeExpression_147 (c_X3_letOut V _ _ _ h147) ?_
              refine x_aload_n C 150 0 dX3_takeExpression_150 rfl ?_
              refine x_iload C 151 6 dX3_takeExpression_151 rfl ?_
              refine Y_bnd1 (fun s_153 h153 => ?_)
              refine x_callVv C 153 [.int v6_100] [] rfl tw_581 mv_X3_putOff (Nat.le_of_ble_eq_true rfl) (Nat.le_of_ble_eq_true rfl) (Nat.le_of_ble_eq_true rfl) (Nat.le_of_ble_eq_true rfl) (kc_2 V _) rfl dX3_takeExpression_153 (c_X3_putOff V _ _ _ h153) ?_
              refine x_aload_n C 156 0 dX3_takeExpression_156 rfl ?_
              refine x_iload C 157 6 dX3_takeExpression_157 rfl ?_
              refine Y_bnd1 (fun s_159 h159 => ?_)
              refine x_callVv C 159 [.int v6_100] [] rfl tw_541 mv_X3_take (Nat.le_of_ble_eq_true rfl) (Nat.le_of_ble_eq_true rfl) (Nat.le_of_ble_eq_true rfl) (Nat.le_of_ble_eq_true rfl) (kc_2 V _) rfl dX3_takeExpression_159 (c_X3_take V _ _ _ h159) ?_
              refine x_iconst C 162 dX3_takeExpression_162 ki_1 ?_
              refine x_istore_n C 163 (L' := [(3, .int (1 : Int32)), (0, .ref (zA (Zc V) 2)), (1, .int v1), (2, .int v2_100), (4, .int v4_100), (5, .int v5_100), (6, .int v6_100)]) dX3_takeExpression_163 rfl (hN _ (Nat.le_of_ble_eq_true rfl)) rfl ?_
              refine x_goto C 164 190 dX3_takeExpression_164 (by decide) ?_
              refine x_iinct C 190 5 (1 : Int32) (fun v5_190 => [(5, .int v5_190), (3, .int (1 : Int32)), (0, .ref (zA (Zc V) 2)), (1, .int v1), (2, .int v2_100), (4, .int v4_100), (6, .int v6_100)]) dX3_takeExpression_190 rfl ki_1 (hN _ (Nat.le_of_ble_eq_true rfl)) (fun _ => rfl) (fun v5_190 => ?_)
              refine x_goto C 193 31 dX3_takeExpression_193 (by decide) ?_
              refine Y_sub [2, 3, 4, 1, 5, 0] rfl ?_
              exact x_back (v2_100, (1 : Int32), v4_100, v5_190, s_159) (hb31 (v2_100, (1 : Int32), v4_100, v5_190, s_159))
          · refine x_aload_n C 104 0 dX3_takeExpression_104 rfl ?_
            refine x_iload C 105 6 dX3_takeExpression_105 rfl ?_
            refine Y_bnd1 (fun s_107 h107 => ?_)
            refine x_callVv C 107 [.int v6_100] [] rfl tw_585 mv_X3_addUnit (Nat.le_of_ble_eq_true rfl) (Nat.le_of_ble_eq_true rfl) (Nat.le_of_ble_eq_true rfl) (Nat.le_of_ble_eq_true rfl) (kc_2 V _) rfl dX3_takeExpression_107 (c_X3_addUnit V _ _ _ h107) ?_
            refine x_aload_n C 110 0 dX3_takeExpression_110 rfl ?_
            refine x_iload C 111 6 dX3_takeExpression_111 rfl ?_
            refine Y_bnd1 (fun r113 h113 => ?_)
            refine x_callSi C 113 [.int v6_100] [.ref (zA (Zc V) 2)] rfl tw_597 ms_X3_isValue (Nat.le_of_ble_eq_true rfl) (Nat.le_of_ble_eq_true rfl) (Nat.le_of_ble_eq_true rfl) dX3_takeExpression_113 (c_X3_isValue V _ _ _ h113) ?_
            have hJ125 : ∀ (σ_125 : Wd) (v2_125 : Int32) (v4_125 : Int32) (v5_125 : Int32) (t0_125 : Int32), Y K (Zc V) (M_X3_takeExpression_J125 σ_125 v1 v2_125 v4_125 v5_125 t0_125) E31 σ_125 125 [(0, .ref (zA (Zc V) 2)), (1, .int v1), (2, .int v2_125), (4, .int v4_125), (5, .int v5_125)] [.int t0_125, .ref (zA (Zc V) 2)] := by
              intro σ_125 v2_125 v4_125 v5_125 t0_125
              unfold M_X3_takeExpression_J125
              refine Y_bnd1 (fun s_125 h125 => ?_)
              refine x_callVv C 125 [.int t0_125] [] rfl tw_541 mv_X3_take (Nat.le_of_ble_eq_true rfl) (Nat.le_of_ble_eq_true rfl) (Nat.le_of_ble_eq_true rfl) (Nat.le_of_ble_eq_true rfl) (kc_2 V _) rfl dX3_takeExpression_125 (c_X3_take V _ _ _ h125) ?_
              refine x_iconst C 128 dX3_takeExpression_128 ki_0 ?_
              refine x_istore_n C 129 (L' := [(3, .int (0 : Int32)), (0, .ref (zA (Zc V) 2)), (1, .int v1), (2, .int v2_125), (4, .int v4_125), (5, .int v5_125)]) dX3_takeExpression_129 rfl (hN _ (Nat.le_of_ble_eq_true rfl)) rfl ?_
              refine x_goto C 130 190 dX3_takeExpression_130 (by decide) ?_
              refine x_iinct C 190 5 (1 : Int32) (fun v5_190 => [(5, .int v5_190), (3, .int (0 : Int32)), (0, .ref (zA (Zc V) 2)), (1, .int v1), (2, .int v2_125), (4, .int v4_125)]) dX3_takeExpression_190 rfl ki_1 (hN _ (Nat.le_of_ble_eq_true rfl)) (fun _ => rfl) (fun v5_190 => ?_)
              refine x_goto C 193 31 dX3_takeExpression_193 (by decide) ?_
              refine Y_sub [2, 3, 4, 1, 5, 0] rfl ?_
              exact x_back (v2_125, (0 : Int32), v4_125, v5_190, s_125) (hb31 (v2_125, (0 : Int32), v4_125, v5_190, s_125))
            refine x_if_eq C 116 124 dX3_takeExpression_116 (by decide) (fun _ => ?_) (fun _ => ?_)
            · refine x_iconst C 124 dX3_takeExpression_124 ki_2 ?_
              refine Y_sub [0, 1, 2, 4, 5] rfl ?_
              exact hJ125 _ _ _ _ _
            · refine x_iload C 119 6 dX3_takeExpression_119 rfl ?_
              refine x_goto C 121 125 dX3_takeExpression_121 (by decide) ?_
              refine Y_sub [0, 1, 2, 4, 5] rfl ?_
              exact hJ125 _ _ _ _ _
        refine x_if_eq C 61 100 dX3_takeExpression_61 (by decide) (fun _ => ?_) (fun _ => ?_)
        · refine Y_sub [1, 2, 3, 4, 5, 6, 0] rfl ?_
          exact hJ100 _ _ _ _ _ _
        · refine x_iload C 64 0 dX3_takeExpression_64 rfl ?_
          refine x_bipush C 66 dX3_takeExpression_66 kb_40 ?_
          refine x_icmp_ne C 68 100 dX3_takeExpression_68 (by decide) (fun _ => ?_) (fun _ => ?_)
          · refine Y_sub [1, 2, 3, 4, 5, 6, 0] rfl ?_
            exact hJ100 _ _ _ _ _ _
          · refine x_iload_n C 71 3 dX3_takeExpression_71 rfl ?_
            refine x_bipush C 72 dX3_takeExpression_72 kb_6 ?_
            have hJ82 : ∀ (σ_82 : Wd) (v2_82 : Int32) (v3_82 : Int32) (v4_82 : Int32) (v5_82 : Int32) (v6_82 : Int32), Y K (Zc V) (M_X3_takeExpression_J82 σ_82 v1 v2_82 v3_82 v4_82 v5_82 v6_82) E31 σ_82 82 [(0, .ref (zA (Zc V) 2)), (1, .int v1), (2, .int v2_82), (3, .int v3_82), (4, .int v4_82), (5, .int v5_82), (6, .int v6_82)] [] := by
              intro σ_82 v2_82 v3_82 v4_82 v5_82 v6_82
              unfold M_X3_takeExpression_J82
              refine x_iinct C 82 2 (1 : Int32) (fun v2_82 => [(2, .int v2_82), (0, .ref (zA (Zc V) 2)), (1, .int v1), (3, .int v3_82), (4, .int v4_82), (5, .int v5_82), (6, .int v6_82)]) dX3_takeExpression_82 rfl ki_1 (hN _ (Nat.le_of_ble_eq_true rfl)) (fun _ => rfl) (fun v2_82 => ?_)
              refine x_aload_n C 85 1 dX3_takeExpression_85 rfl ?_
              refine x_iload C 86 6 dX3_takeExpression_86 rfl ?_
              refine Y_bnd1 (fun s_88 h88 => ?_)
              refine x_callVv C 88 [.int v6_82] [] rfl tw_581 mv_X3_putOff (Nat.le_of_ble_eq_true rfl) (Nat.le_of_ble_eq_true rfl) (Nat.le_of_ble_eq_true rfl) (Nat.le_of_ble_eq_true rfl) (kc_2 V _) rfl dX3_takeExpression_88 (c_X3_putOff V _ _ _ h88) ?_
              refine x_aload_n C 91 1 dX3_takeExpression_91 rfl ?_
              refine x_iload C 92 6 dX3_takeExpression_92 rfl ?_
              refine Y_bnd1 (fun s_94 h94 => ?_)
              refine x_callVv C 94 [.int v6_82] [] rfl tw_541 mv_X3_take (Nat.le_of_ble_eq_true rfl) (Nat.le_of_ble_eq_true rfl) (Nat.le_of_ble_eq_true rfl) (Nat.le_of_ble_eq_true rfl) (kc_2 V _) rfl dX3_takeExpression_94 (c_X3_take V _ _ _ h94) ?_
              refine x_goto C 97 190 dX3_takeExpression_97 (by decide) ?_
              refine x_iinct C 190 5 (1 : Int32) (fun v5_190 => [(5, .int v5_190), (2, .int v2_82), (0, .ref (zA (Zc V) 2)), (1, .int v1), (3, .int v3_82), (4, .int v4_82), (6, .int v6_82)]) dX3_takeExpression_190 rfl ki_1 (hN _ (Nat.le_of_ble_eq_true rfl)) (fun _ => rfl) (fun v5_190 => ?_)
              refine x_goto C 193 31 dX3_takeExpression_193 (by decide) ?_
              refine Y_sub [2, 3, 1, 4, 5, 0] rfl ?_
              exact x_back (v2_82, v3_82, v4_82, v5_190, s_94) (hb31 (v2_82, v3_82, v4_82, v5_190, s_94))
            refine x_icmp_lt C 74 82 dX3_takeExpression_74 (by decide) (fun _ => ?_) (fun _ => ?_)
            · refine Y_sub [1, 2, 3, 4, 5, 6, 0] rfl ?_
              exact hJ82 _ _ _ _ _ _
            · refine x_aload_n C 77 1 dX3_takeExpression_77 rfl ?_
              refine x_iconst C 78 dX3_takeExpression_78 ki_2 ?_
              refine Y_bnd1 (fun s_79 h79 => ?_)
              refine x_callVv C 79 [.int (2 : Int32)] [] rfl tw_533 mv_X3_fail (Nat.le_of_ble_eq_true rfl) (Nat.le_of_ble_eq_true rfl) (Nat.le_of_ble_eq_true rfl) (Nat.le_of_ble_eq_true rfl) (kc_2 V _) rfl dX3_takeExpression_79 (c_X3_fail V _ _ _ h79) ?_
              refine Y_sub [1, 2, 3, 4, 5, 6, 0] rfl ?_
              exact hJ82 _ _ _ _ _ _
