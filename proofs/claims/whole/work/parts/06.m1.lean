/-! the model's methods: programs and contracts -/
def M_X9_lays_L3 (v1 : Int32) (v2 : Int32) (σ : Wd) : Option ((Int32 × Wd) ⊕ (Wd)) :=
  if v2 < 0 then (some (.inr σ)) else (chk (ib (gI σ 0 2) 2000) (lt (uI σ 1 (ix (gI σ 0 2)) (vp_nar .byte ((v1 >>> (v2 &&& 31)).toInt8.toInt32))) fun s_19 => lt (uI s_19 0 2 ((gI s_19 0 2) + (1 : Int32))) fun s_27 => lt (v2 + (-8 : Int32)) fun v2_30 => some (.inl (v2_30, s_27))))
def M_X9_lays (σ : Wd) (v1 : Int32) : Option Wd :=
  bnd1 (iter (fun s : Int32 × Wd => M_X9_lays_L3 v1 s.1 s.2) FU ((24 : Int32), σ)) (un1 fun sx_3 => (some sx_3))
set_option maxRecDepth 100000 in
set_option maxHeartbeats 4000000 in
theorem c_X9_lays (V : Vt) (l : Launch) (σ : Wd) (v1 : Int32) {σ2 : Wd} (h : M_X9_lays σ v1 = some σ2) : Ct l (Zm V) yX9_lays cX9_lays 3 none 0 0 [.ref (zA (Zm V) 0), .int v1] σ none σ2 := by
  refine Ct_intro (own := RX9) zm_ok (by decide +kernel) rfl (Nat.le_of_ble_eq_true rfl) [(0, .ref (zA (Zm V) 0)), (1, .int v1)] rfl (fun K C R hKl hnL => ?_)
  have hN := nl_of hnL
  subst hKl
  refine Y_end h ?_
  unfold M_X9_lays
  refine x_bipush C 0 dX9_lays_0 kb_24 ?_
  refine x_istore_n C 2 (L' := [(2, .int (24 : Int32)), (0, .ref (zA (Zm V) 0)), (1, .int v1)]) dX9_lays_2 rfl (hN _ (Nat.le_of_ble_eq_true rfl)) rfl ?_
  refine Y_sub [1, 2, 0] rfl ?_
  refine x_loop 3 (fun s : Int32 × Wd => s.2) (fun s : Int32 × Wd => [(0, .ref (zA (Zm V) 0)), (1, .int v1), (2, .int s.1)]) (fun E3 hb3 hx3 s => ?_) FU ((24 : Int32), σ)
  obtain ⟨v2_3, s_3⟩ := s
  show Y K (Zm V) (M_X9_lays_L3 v1 v2_3 s_3) E3 s_3 3 [(0, .ref (zA (Zm V) 0)), (1, .int v1), (2, .int v2_3)] []
  unfold M_X9_lays_L3
  refine x_iload_n C 3 2 dX9_lays_3 rfl ?_
  refine x_if_lt C 4 36 dX9_lays_4 (by decide) (fun _ => ?_) (fun _ => ?_)
  · refine x_ex1 hx3 s_3 ?_
    exact x_vret C R 36 dX9_lays_36
  · refine x_aload_n C 7 0 dX9_lays_7 rfl ?_
    refine fg_tape C 8 dX9_lays_8 ?_
    refine x_aload_n C 11 0 dX9_lays_11 rfl ?_
    refine fg_taped C 12 dX9_lays_12 ?_
    refine x_iload_n C 15 1 dX9_lays_15 rfl ?_
    refine x_iload_n C 16 2 dX9_lays_16 rfl ?_
    refine x_ishr C 17 dX9_lays_17 ?_
    refine x_i2b C 18 dX9_lays_18 ?_
    refine x_bast C 19 (Nat.le_of_ble_eq_true rfl) (km_1 V) dX9_lays_19 (fun _ s_19 => ?_)
    refine x_aload_n C 20 0 dX9_lays_20 rfl ?_
    refine x_dup C 21 dX9_lays_21 rfl ?_
    refine fg_taped C 22 dX9_lays_22 ?_
    refine x_iconst C 25 dX9_lays_25 ki_1 ?_
    refine x_iadd C 26 dX9_lays_26 ?_
    refine fp_taped C 27 dX9_lays_27 (fun s_27 => ?_)
    refine x_iinct C 30 2 (-8 : Int32) (fun v2_30 => [(2, .int v2_30), (0, .ref (zA (Zm V) 0)), (1, .int v1)]) dX9_lays_30 rfl ki_m8 (hN _ (Nat.le_of_ble_eq_true rfl)) (fun _ => rfl) (fun v2_30 => ?_)
    refine x_goto C 33 3 dX9_lays_33 (by decide) ?_
    refine Y_sub [1, 2, 0] rfl ?_
    exact x_back (v2_30, s_27) (hb3 (v2_30, s_27))
def M_X9_feed (σ : Wd) (v1 : Int32) (v2 : Int32) (v3 : Int32) (v4 : Int32) (v5 : Int32) : Option (Int32 × Wd) :=
  if ((gI σ 0 2) + (20 : Int32)) ≤ (2000 : Int32) then (bnd1 (M_X9_lays σ v1) fun s_17 => bnd1 (M_X9_lays s_17 v2) fun s_22 => bnd1 (M_X9_lays s_22 v3) fun s_27 => bnd1 (M_X9_lays s_27 v4) fun s_33 => bnd1 (M_X9_lays s_33 v5) fun s_39 => some ((gI s_39 0 2), s_39)) else (some ((-1 : Int32), σ))
set_option maxRecDepth 100000 in
set_option maxHeartbeats 4000000 in
theorem c_X9_feed (V : Vt) (l : Launch) (σ : Wd) (v1 : Int32) (v2 : Int32) (v3 : Int32) (v4 : Int32) (v5 : Int32) {r : Int32} {σ2 : Wd} (h : M_X9_feed σ v1 v2 v3 v4 v5 = some (r, σ2)) : Ct l (Zm V) yX9_feed cX9_feed 6 (some .int) 1 22 [.ref (zA (Zm V) 0), .int v1, .int v2, .int v3, .int v4, .int v5] σ (some (.int r)) σ2 := by
  refine Ct_intro (own := RX9) zm_ok (by decide +kernel) rfl (Nat.le_of_ble_eq_true rfl) [(0, .ref (zA (Zm V) 0)), (1, .int v1), (2, .int v2), (3, .int v3), (4, .int v4), (5, .int v5)] rfl (fun K C R hKl hnL => ?_)
  have hN := nl_of hnL
  subst hKl
  refine Y_end h ?_
  unfold M_X9_feed
  refine x_aload_n C 0 0 dX9_feed_0 rfl ?_
  refine fg_taped C 1 dX9_feed_1 ?_
  refine x_bipush C 4 dX9_feed_4 kb_20 ?_
  refine x_iadd C 6 dX9_feed_6 ?_
  refine x_sipush C 7 dX9_feed_7 ks_2000 ?_
  refine x_icmp_le C 10 15 dX9_feed_10 (by decide) (fun _ => ?_) (fun _ => ?_)
  · refine x_aload_n C 15 0 dX9_feed_15 rfl ?_
    refine x_iload_n C 16 1 dX9_feed_16 rfl ?_
    refine Y_bnd1 (fun s_17 h17 => ?_)
    refine x_callVv C 17 [.int v1] [] rfl tw_1451 mv_X9_lays (Nat.le_of_ble_eq_true rfl) (Nat.le_of_ble_eq_true rfl) (Nat.le_of_ble_eq_true rfl) (Nat.le_of_ble_eq_true rfl) (km_0 V _) rfl dX9_feed_17 (c_X9_lays V _ _ _ h17) ?_
    refine x_aload_n C 20 0 dX9_feed_20 rfl ?_
    refine x_iload_n C 21 2 dX9_feed_21 rfl ?_
    refine Y_bnd1 (fun s_22 h22 => ?_)
    refine x_callVv C 22 [.int v2] [] rfl tw_1451 mv_X9_lays (Nat.le_of_ble_eq_true rfl) (Nat.le_of_ble_eq_true rfl) (Nat.le_of_ble_eq_true rfl) (Nat.le_of_ble_eq_true rfl) (km_0 V _) rfl dX9_feed_22 (c_X9_lays V _ _ _ h22) ?_
    refine x_aload_n C 25 0 dX9_feed_25 rfl ?_
    refine x_iload_n C 26 3 dX9_feed_26 rfl ?_
    refine Y_bnd1 (fun s_27 h27 => ?_)
    refine x_callVv C 27 [.int v3] [] rfl tw_1451 mv_X9_lays (Nat.le_of_ble_eq_true rfl) (Nat.le_of_ble_eq_true rfl) (Nat.le_of_ble_eq_true rfl) (Nat.le_of_ble_eq_true rfl) (km_0 V _) rfl dX9_feed_27 (c_X9_lays V _ _ _ h27) ?_
    refine x_aload_n C 30 0 dX9_feed_30 rfl ?_
    refine x_iload C 31 4 dX9_feed_31 rfl ?_
    refine Y_bnd1 (fun s_33 h33 => ?_)
    refine x_callVv C 33 [.int v4] [] rfl tw_1451 mv_X9_lays (Nat.le_of_ble_eq_true rfl) (Nat.le_of_ble_eq_true rfl) (Nat.le_of_ble_eq_true rfl) (Nat.le_of_ble_eq_true rfl) (km_0 V _) rfl dX9_feed_33 (c_X9_lays V _ _ _ h33) ?_
    refine x_aload_n C 36 0 dX9_feed_36 rfl ?_
    refine x_iload C 37 5 dX9_feed_37 rfl ?_
    refine Y_bnd1 (fun s_39 h39 => ?_)
    refine x_callVv C 39 [.int v5] [] rfl tw_1451 mv_X9_lays (Nat.le_of_ble_eq_true rfl) (Nat.le_of_ble_eq_true rfl) (Nat.le_of_ble_eq_true rfl) (Nat.le_of_ble_eq_true rfl) (km_0 V _) rfl dX9_feed_39 (c_X9_lays V _ _ _ h39) ?_
    refine x_aload_n C 42 0 dX9_feed_42 rfl ?_
    refine fg_taped C 43 dX9_feed_43 ?_
    exact x_iret2 C R 46 dX9_feed_46
  · refine x_iconst C 13 dX9_feed_13 ki_m1 ?_
    exact x_iret2 C R 14 dX9_feed_14
def M_X9_back (σ : Wd) (v1 : Int32) : Option (Int32 × Wd) :=
  if v1 < 0 then (some ((-1 : Int32), σ)) else (if v1 ≤ (gI σ 0 2) then (lt (uI σ 0 2 ((gI σ 0 2) - v1)) fun s_21 => some ((gI s_21 0 2), s_21)) else (some ((-1 : Int32), σ)))
set_option maxRecDepth 100000 in
set_option maxHeartbeats 4000000 in
theorem c_X9_back (V : Vt) (l : Launch) (σ : Wd) (v1 : Int32) {r : Int32} {σ2 : Wd} (h : M_X9_back σ v1 = some (r, σ2)) : Ct l (Zm V) yX9_back cX9_back 2 (some .int) 0 0 [.ref (zA (Zm V) 0), .int v1] σ (some (.int r)) σ2 := by
  refine Ct_intro (own := RX9) zm_ok (by decide +kernel) rfl (Nat.le_of_ble_eq_true rfl) [(0, .ref (zA (Zm V) 0)), (1, .int v1)] rfl (fun K C R hKl hnL => ?_)
  have hN := nl_of hnL
  subst hKl
  refine Y_end h ?_
  unfold M_X9_back
  refine x_iload_n C 0 1 dX9_back_0 rfl ?_
  refine x_if_lt C 1 12 dX9_back_1 (by decide) (fun _ => ?_) (fun _ => ?_)
  · refine x_iconst C 12 dX9_back_12 ki_m1 ?_
    exact x_iret2 C R 13 dX9_back_13
  · refine x_iload_n C 4 1 dX9_back_4 rfl ?_
    refine x_aload_n C 5 0 dX9_back_5 rfl ?_
    refine fg_taped C 6 dX9_back_6 ?_
    refine x_icmp_le C 9 14 dX9_back_9 (by decide) (fun _ => ?_) (fun _ => ?_)
    · refine x_aload_n C 14 0 dX9_back_14 rfl ?_
      refine x_dup C 15 dX9_back_15 rfl ?_
      refine fg_taped C 16 dX9_back_16 ?_
      refine x_iload_n C 19 1 dX9_back_19 rfl ?_
      refine x_isub C 20 dX9_back_20 ?_
      refine fp_taped C 21 dX9_back_21 (fun s_21 => ?_)
      refine x_aload_n C 24 0 dX9_back_24 rfl ?_
      refine fg_taped C 25 dX9_back_25 ?_
      exact x_iret2 C R 28 dX9_back_28
    · refine x_iconst C 12 dX9_back_12 ki_m1 ?_
      exact x_iret2 C R 13 dX9_back_13
def M_X9_byteAt (σ : Wd) (v1 : Int32) : Option Int32 :=
  if (gI σ 0 4) ≤ v1 then (some (0 : Int32)) else (chk (ib v1 2000) (some ((gI σ 2 (ix v1)) &&& (255 : Int32))))
set_option maxRecDepth 100000 in
set_option maxHeartbeats 4000000 in
theorem c_X9_byteAt (V : Vt) (l : Launch) (σ : Wd) (v1 : Int32) {r : Int32} (h : M_X9_byteAt σ v1 = some r) : Ct l (Zm V) yX9_byteAt cX9_byteAt 2 (some .int) 0 0 [.ref (zA (Zm V) 0), .int v1] σ (some (.int r)) σ := by
  refine Ct_intro (own := RX9) zm_ok (by decide +kernel) rfl (Nat.le_of_ble_eq_true rfl) [(0, .ref (zA (Zm V) 0)), (1, .int v1)] rfl (fun K C R hKl hnL => ?_)
  have hN := nl_of hnL
  subst hKl
  refine Y_end h ?_
  unfold M_X9_byteAt
  refine x_iload_n C 0 1 dX9_byteAt_0 rfl ?_
  refine x_aload_n C 1 0 dX9_byteAt_1 rfl ?_
  refine fg_size C 2 dX9_byteAt_2 ?_
  refine x_icmp_ge C 5 21 dX9_byteAt_5 (by decide) (fun _ => ?_) (fun _ => ?_)
  · refine x_iconst C 21 dX9_byteAt_21 ki_0 ?_
    exact x_iret1 C R 22 dX9_byteAt_22
  · refine x_aload_n C 8 0 dX9_byteAt_8 rfl ?_
    refine fg_text C 9 dX9_byteAt_9 ?_
    refine x_iload_n C 12 1 dX9_byteAt_12 rfl ?_
    refine x_bald C 13 (Nat.le_of_ble_eq_true rfl) (km_2 V _) dX9_byteAt_13 (fun _ => ?_)
    refine x_sipush C 14 dX9_byteAt_14 ks_255 ?_
    refine x_iand C 17 dX9_byteAt_17 ?_
    refine x_goto C 18 22 dX9_byteAt_18 (by decide) ?_
    exact x_iret1 C R 22 dX9_byteAt_22
def M_X9_isDigit (v0 : Int32) : Option Int32 :=
  if v0 < (48 : Int32) then (some (0 : Int32)) else (if (57 : Int32) < v0 then (some (0 : Int32)) else (some (1 : Int32)))
set_option maxRecDepth 100000 in
set_option maxHeartbeats 4000000 in
theorem c_X9_isDigit (V : Vt) (l : Launch) (σ : Wd) (v0 : Int32) {r : Int32} (h : M_X9_isDigit v0 = some r) : Ct l (Zm V) yX9_isDigit cX9_isDigit 1 (some .boolean) 0 0 [.int v0] σ (some (.int r)) σ := by
  refine Ct_intro (own := RX9) zm_ok (by decide +kernel) rfl (Nat.le_of_ble_eq_true rfl) [(0, .int v0)] rfl (fun K C R hKl hnL => ?_)
  have hN := nl_of hnL
  subst hKl
  refine Y_end h ?_
  unfold M_X9_isDigit
  refine x_iload_n C 0 0 dX9_isDigit_0 rfl ?_
  refine x_bipush C 1 dX9_isDigit_1 kb_48 ?_
  refine x_icmp_lt C 3 16 dX9_isDigit_3 (by decide) (fun _ => ?_) (fun _ => ?_)
  · refine x_iconst C 16 dX9_isDigit_16 ki_0 ?_
    exact x_zret1 C R 17 (zb_nar (r := (0 : Int32)) (Or.inl rfl)) dX9_isDigit_17
  · refine x_iload_n C 6 0 dX9_isDigit_6 rfl ?_
    refine x_bipush C 7 dX9_isDigit_7 kb_57 ?_
    refine x_icmp_gt C 9 16 dX9_isDigit_9 (by decide) (fun _ => ?_) (fun _ => ?_)
    · refine x_iconst C 16 dX9_isDigit_16 ki_0 ?_
      exact x_zret1 C R 17 (zb_nar (r := (0 : Int32)) (Or.inl rfl)) dX9_isDigit_17
    · refine x_iconst C 12 dX9_isDigit_12 ki_1 ?_
      refine x_goto C 13 17 dX9_isDigit_13 (by decide) ?_
      exact x_zret1 C R 17 (zb_nar (r := (1 : Int32)) (Or.inr rfl)) dX9_isDigit_17
def M_X9_isLetter (v0 : Int32) : Option Int32 :=
  if v0 < (97 : Int32) then (some (0 : Int32)) else (if (122 : Int32) < v0 then (some (0 : Int32)) else (some (1 : Int32)))
set_option maxRecDepth 100000 in
set_option maxHeartbeats 4000000 in
theorem c_X9_isLetter (V : Vt) (l : Launch) (σ : Wd) (v0 : Int32) {r : Int32} (h : M_X9_isLetter v0 = some r) : Ct l (Zm V) yX9_isLetter cX9_isLetter 1 (some .boolean) 0 0 [.int v0] σ (some (.int r)) σ := by
  refine Ct_intro (own := RX9) zm_ok (by decide +kernel) rfl (Nat.le_of_ble_eq_true rfl) [(0, .int v0)] rfl (fun K C R hKl hnL => ?_)
  have hN := nl_of hnL
  subst hKl
  refine Y_end h ?_
  unfold M_X9_isLetter
  refine x_iload_n C 0 0 dX9_isLetter_0 rfl ?_
  refine x_bipush C 1 dX9_isLetter_1 kb_97 ?_
  refine x_icmp_lt C 3 16 dX9_isLetter_3 (by decide) (fun _ => ?_) (fun _ => ?_)
  · refine x_iconst C 16 dX9_isLetter_16 ki_0 ?_
    exact x_zret1 C R 17 (zb_nar (r := (0 : Int32)) (Or.inl rfl)) dX9_isLetter_17
  · refine x_iload_n C 6 0 dX9_isLetter_6 rfl ?_
    refine x_bipush C 7 dX9_isLetter_7 kb_122 ?_
    refine x_icmp_gt C 9 16 dX9_isLetter_9 (by decide) (fun _ => ?_) (fun _ => ?_)
    · refine x_iconst C 16 dX9_isLetter_16 ki_0 ?_
      exact x_zret1 C R 17 (zb_nar (r := (0 : Int32)) (Or.inl rfl)) dX9_isLetter_17
    · refine x_iconst C 12 dX9_isLetter_12 ki_1 ?_
      refine x_goto C 13 17 dX9_isLetter_13 (by decide) ?_
      exact x_zret1 C R 17 (zb_nar (r := (1 : Int32)) (Or.inr rfl)) dX9_isLetter_17
def M_X9_appends (v0 : Int64) (v2 : Int32) : Option Int64 :=
  if v2 ≠ 0 then (some (((27 : Int64) * v0) + ((v2 - (97 : Int32)) + (1 : Int32)).toInt64)) else (some v0)
set_option maxRecDepth 100000 in
set_option maxHeartbeats 4000000 in
theorem c_X9_appends (V : Vt) (l : Launch) (σ : Wd) (v0 : Int64) (v2 : Int32) {r : Int64} (h : M_X9_appends v0 v2 = some r) : Ct l (Zm V) yX9_appends cX9_appends 3 (some .long) 0 0 [.long v0, .int v2] σ (some (.long r)) σ := by
  refine Ct_intro (own := RX9) zm_ok (by decide +kernel) rfl (Nat.le_of_ble_eq_true rfl) [(0, .long v0), (2, .int v2)] rfl (fun K C R hKl hnL => ?_)
  have hN := nl_of hnL
  subst hKl
  refine Y_end h ?_
  unfold M_X9_appends
  refine x_iload_n C 0 1 dX9_appends_0 rfl ?_
  refine x_if_ne C 1 8 dX9_appends_1 (by decide) (fun _ => ?_) (fun _ => ?_)
  · refine x_ldc2 C 8 (hw := tw_1261) dX9_appends_8 ?_
    refine x_lload_n C 11 0 dX9_appends_11 rfl ?_
    refine x_lmul C 12 dX9_appends_12 ?_
    refine x_iload_n C 13 1 dX9_appends_13 rfl ?_
    refine x_bipush C 14 dX9_appends_14 kb_97 ?_
    refine x_isub C 16 dX9_appends_16 ?_
    refine x_iconst C 17 dX9_appends_17 ki_1 ?_
    refine x_iadd C 18 dX9_appends_18 ?_
    refine x_i2l C 19 dX9_appends_19 ?_
    refine x_ladd C 20 dX9_appends_20 ?_
    exact x_lret1 C R 21 dX9_appends_21
  · refine x_lload_n C 4 0 dX9_appends_4 rfl ?_
    refine x_goto C 5 21 dX9_appends_5 (by decide) ?_
    exact x_lret1 C R 21 dX9_appends_21
def M_X9_letters (v0 : Int32) (v1 : Int32) (v2 : Int32) (v3 : Int32) (v4 : Int32) (v5 : Int32) (v6 : Int32) : Option Int64 :=
  bnd1 (M_X9_appends (0 : Int64) v0) fun r2 => bnd1 (M_X9_appends r2 v1) fun r6 => bnd1 (M_X9_appends r6 v2) fun r10 => bnd1 (M_X9_appends r10 v3) fun r14 => bnd1 (M_X9_appends r14 v4) fun r19 => bnd1 (M_X9_appends r19 v5) fun r24 => bnd1 (M_X9_appends r24 v6) fun r29 => some r29
set_option maxRecDepth 100000 in
set_option maxHeartbeats 4000000 in
theorem c_X9_letters (V : Vt) (l : Launch) (σ : Wd) (v0 : Int32) (v1 : Int32) (v2 : Int32) (v3 : Int32) (v4 : Int32) (v5 : Int32) (v6 : Int32) {r : Int64} (h : M_X9_letters v0 v1 v2 v3 v4 v5 v6 = some r) : Ct l (Zm V) yX9_letters cX9_letters 7 (some .long) 1 22 [.int v0, .int v1, .int v2, .int v3, .int v4, .int v5, .int v6] σ (some (.long r)) σ := by
  refine Ct_intro (own := RX9) zm_ok (by decide +kernel) rfl (Nat.le_of_ble_eq_true rfl) [(0, .int v0), (1, .int v1), (2, .int v2), (3, .int v3), (4, .int v4), (5, .int v5), (6, .int v6)] rfl (fun K C R hKl hnL => ?_)
  have hN := nl_of hnL
  subst hKl
  refine Y_end h ?_
  unfold M_X9_letters
  refine x_lconst C 0 dX9_letters_0 kl_0 ?_
  refine x_iload_n C 1 0 dX9_letters_1 rfl ?_
  refine Y_bnd1 (fun r2 h2 => ?_)
  refine x_callSl C 2 [.long (0 : Int64), .int v0] [] rfl tw_1258 ms_X9_appends (Nat.le_of_ble_eq_true rfl) (Nat.le_of_ble_eq_true rfl) (Nat.le_of_ble_eq_true rfl) dX9_letters_2 (c_X9_appends V _ _ _ _ h2) ?_
  refine x_iload_n C 5 1 dX9_letters_5 rfl ?_
  refine Y_bnd1 (fun r6 h6 => ?_)
  refine x_callSl C 6 [.long r2, .int v1] [] rfl tw_1258 ms_X9_appends (Nat.le_of_ble_eq_true rfl) (Nat.le_of_ble_eq_true rfl) (Nat.le_of_ble_eq_true rfl) dX9_letters_6 (c_X9_appends V _ _ _ _ h6) ?_
  refine x_iload_n C 9 2 dX9_letters_9 rfl ?_
  refine Y_bnd1 (fun r10 h10 => ?_)
  refine x_callSl C 10 [.long r6, .int v2] [] rfl tw_1258 ms_X9_appends (Nat.le_of_ble_eq_true rfl) (Nat.le_of_ble_eq_true rfl) (Nat.le_of_ble_eq_true rfl) dX9_letters_10 (c_X9_appends V _ _ _ _ h10) ?_
  refine x_iload_n C 13 3 dX9_letters_13 rfl ?_
  refine Y_bnd1 (fun r14 h14 => ?_)
  refine x_callSl C 14 [.long r10, .int v3] [] rfl tw_1258 ms_X9_appends (Nat.le_of_ble_eq_true rfl) (Nat.le_of_ble_eq_true rfl) (Nat.le_of_ble_eq_true rfl) dX9_letters_14 (c_X9_appends V _ _ _ _ h14) ?_
  refine x_iload C 17 4 dX9_letters_17 rfl ?_
  refine Y_bnd1 (fun r19 h19 => ?_)
  refine x_callSl C 19 [.long r14, .int v4] [] rfl tw_1258 ms_X9_appends (Nat.le_of_ble_eq_true rfl) (Nat.le_of_ble_eq_true rfl) (Nat.le_of_ble_eq_true rfl) dX9_letters_19 (c_X9_appends V _ _ _ _ h19) ?_
  refine x_iload C 22 5 dX9_letters_22 rfl ?_
  refine Y_bnd1 (fun r24 h24 => ?_)
  refine x_callSl C 24 [.long r19, .int v5] [] rfl tw_1258 ms_X9_appends (Nat.le_of_ble_eq_true rfl) (Nat.le_of_ble_eq_true rfl) (Nat.le_of_ble_eq_true rfl) dX9_letters_24 (c_X9_appends V _ _ _ _ h24) ?_
  refine x_iload C 27 6 dX9_letters_27 rfl ?_
  refine Y_bnd1 (fun r29 h29 => ?_)
  refine x_callSl C 29 [.long r24, .int v6] [] rfl tw_1258 ms_X9_appends (Nat.le_of_ble_eq_true rfl) (Nat.le_of_ble_eq_true rfl) (Nat.le_of_ble_eq_true rfl) dX9_letters_29 (c_X9_appends V _ _ _ _ h29) ?_
  exact x_lret1 C R 32 dX9_letters_32
def M_X9_token (σ : Wd) (v1 : Int32) (v2 : Int32) (v3 : Int32) (v4 : Int64) : Option Wd :=
  chk (ib (gI σ 0 10) 403) (lt (uI σ 3 (ix (gI σ 0 10)) v1) fun s_9 => chk (ib (gI s_9 0 10) 403) (lt (uI s_9 4 (ix (gI s_9 0 10)) v2) fun s_19 => chk (ib (gI s_19 0 10) 403) (lt (uI s_19 5 (ix (gI s_19 0 10)) v3) fun s_29 => chk (ib (gI s_29 0 10) 403) (lt (uL s_29 6 (ix (gI s_29 0 10)) v4) fun s_40 => lt (uI s_40 0 10 ((gI s_40 0 10) + (1 : Int32))) fun s_48 => some s_48))))
set_option maxRecDepth 100000 in
set_option maxHeartbeats 4000000 in
theorem c_X9_token (V : Vt) (l : Launch) (σ : Wd) (v1 : Int32) (v2 : Int32) (v3 : Int32) (v4 : Int64) {σ2 : Wd} (h : M_X9_token σ v1 v2 v3 v4 = some σ2) : Ct l (Zm V) yX9_token cX9_token 6 none 0 0 [.ref (zA (Zm V) 0), .int v1, .int v2, .int v3, .long v4] σ none σ2 := by
  refine Ct_intro (own := RX9) zm_ok (by decide +kernel) rfl (Nat.le_of_ble_eq_true rfl) [(0, .ref (zA (Zm V) 0)), (1, .int v1), (2, .int v2), (3, .int v3), (4, .long v4)] rfl (fun K C R hKl hnL => ?_)
  have hN := nl_of hnL
  subst hKl
  refine Y_end h ?_
  unfold M_X9_token
  refine x_aload_n C 0 0 dX9_token_0 rfl ?_
  refine fg_tKind C 1 dX9_token_1 ?_
  refine x_aload_n C 4 0 dX9_token_4 rfl ?_
  refine fg_tokens C 5 dX9_token_5 ?_
  refine x_iload_n C 8 1 dX9_token_8 rfl ?_
  refine x_iast C 9 (Nat.le_of_ble_eq_true rfl) (km_3 V) dX9_token_9 (fun _ s_9 => ?_)
  refine x_aload_n C 10 0 dX9_token_10 rfl ?_
  refine fg_tPlace C 11 dX9_token_11 ?_
  refine x_aload_n C 14 0 dX9_token_14 rfl ?_
  refine fg_tokens C 15 dX9_token_15 ?_
  refine x_iload_n C 18 2 dX9_token_18 rfl ?_
  refine x_iast C 19 (Nat.le_of_ble_eq_true rfl) (km_4 V) dX9_token_19 (fun _ s_19 => ?_)
  refine x_aload_n C 20 0 dX9_token_20 rfl ?_
  refine fg_tValue C 21 dX9_token_21 ?_
  refine x_aload_n C 24 0 dX9_token_24 rfl ?_
  refine fg_tokens C 25 dX9_token_25 ?_
  refine x_iload_n C 28 3 dX9_token_28 rfl ?_
  refine x_iast C 29 (Nat.le_of_ble_eq_true rfl) (km_5 V) dX9_token_29 (fun _ s_29 => ?_)
  refine x_aload_n C 30 0 dX9_token_30 rfl ?_
  refine fg_tName C 31 dX9_token_31 ?_
  refine x_aload_n C 34 0 dX9_token_34 rfl ?_
  refine fg_tokens C 35 dX9_token_35 ?_
  refine x_lload C 38 4 dX9_token_38 rfl ?_
  refine x_last C 40 (Nat.le_of_ble_eq_true rfl) (km_6 V) dX9_token_40 (fun _ s_40 => ?_)
  refine x_aload_n C 41 0 dX9_token_41 rfl ?_
  refine x_dup C 42 dX9_token_42 rfl ?_
  refine fg_tokens C 43 dX9_token_43 ?_
  refine x_iconst C 46 dX9_token_46 ki_1 ?_
  refine x_iadd C 47 dX9_token_47 ?_
  refine fp_tokens C 48 dX9_token_48 (fun s_48 => ?_)
  exact x_vret C R 51 dX9_token_51
def M_X9_sign_J95 (σ : Wd) (v1 : Int32) (v4 : Int32) : Option (Int32 × Wd) :=
  bnd1 (M_X9_token σ v4 v1 (0 : Int32) (0 : Int64)) fun s_101 => some ((1 : Int32), s_101)
def M_X9_sign_J85 (σ : Wd) (v1 : Int32) (v2 : Int32) (v4 : Int32) : Option (Int32 × Wd) :=
  if v2 ≠ (60 : Int32) then (M_X9_sign_J95 σ v1 v4) else (M_X9_sign_J95 σ v1 (13 : Int32))
def M_X9_sign_J75 (σ : Wd) (v1 : Int32) (v2 : Int32) (v4 : Int32) : Option (Int32 × Wd) :=
  if v2 ≠ (47 : Int32) then (M_X9_sign_J85 σ v1 v2 v4) else (M_X9_sign_J85 σ v1 v2 (15 : Int32))
def M_X9_sign_J65 (σ : Wd) (v1 : Int32) (v2 : Int32) (v4 : Int32) : Option (Int32 × Wd) :=
  if v2 ≠ (42 : Int32) then (M_X9_sign_J75 σ v1 v2 v4) else (M_X9_sign_J75 σ v1 v2 (10 : Int32))
def M_X9_sign_J55 (σ : Wd) (v1 : Int32) (v2 : Int32) (v4 : Int32) : Option (Int32 × Wd) :=
  if v2 ≠ (45 : Int32) then (M_X9_sign_J65 σ v1 v2 v4) else (M_X9_sign_J65 σ v1 v2 (9 : Int32))
def M_X9_sign_J43 (σ : Wd) (v1 : Int32) (v2 : Int32) (t0 : Int32) : Option (Int32 × Wd) :=
  if v2 ≠ (43 : Int32) then (M_X9_sign_J55 σ v1 v2 t0) else (M_X9_sign_J55 σ v1 v2 (8 : Int32))
def M_X9_sign (σ : Wd) (v1 : Int32) (v2 : Int32) (v3 : Int32) : Option (Int32 × Wd) :=
  if v2 ≠ (59 : Int32) then (if v2 ≠ (61 : Int32) then (if v2 ≠ (40 : Int32) then (if v2 ≠ (41 : Int32) then (M_X9_sign_J43 σ v1 v2 (3 : Int32)) else (M_X9_sign_J43 σ v1 v2 (7 : Int32))) else (M_X9_sign_J43 σ v1 v2 (6 : Int32))) else (M_X9_sign_J43 σ v1 v2 (5 : Int32))) else (M_X9_sign_J43 σ v1 v2 (4 : Int32))
set_option maxRecDepth 100000 in
set_option maxHeartbeats 4000000 in
theorem c_X9_sign (V : Vt) (l : Launch) (σ : Wd) (v1 : Int32) (v2 : Int32) (v3 : Int32) {r : Int32} {σ2 : Wd} (h : M_X9_sign σ v1 v2 v3 = some (r, σ2)) : Ct l (Zm V) yX9_sign cX9_sign 5 (some .int) 1 25 [.ref (zA (Zm V) 0), .int v1, .int v2, .int v3] σ (some (.int r)) σ2 := by
  refine Ct_intro (own := RX9) zm_ok (by decide +kernel) rfl (Nat.le_of_ble_eq_true rfl) [(0, .ref (zA (Zm V) 0)), (1, .int v1), (2, .int v2), (3, .int v3)] rfl (fun K C R hKl hnL => ?_)
  have hN := nl_of hnL
  subst hKl
  refine Y_end h ?_
  unfold M_X9_sign
  refine x_iload_n C 0 2 dX9_sign_0 rfl ?_
  refine x_bipush C 1 dX9_sign_1 kb_59 ?_
  have hJ43 : ∀ (σ_43 : Wd) (v1_43 : Int32) (v2_43 : Int32) (t0_43 : Int32), Y K (Zm V) (M_X9_sign_J43 σ_43 v1_43 v2_43 t0_43) (fun q => q = (r, σ2)) σ_43 43 [(0, .ref (zA (Zm V) 0)), (1, .int v1_43), (2, .int v2_43)] [.int t0_43] := by
    intro σ_43 v1_43 v2_43 t0_43
    unfold M_X9_sign_J43
    refine x_istore C 43 (L' := [(4, .int t0_43), (0, .ref (zA (Zm V) 0)), (1, .int v1_43), (2, .int v2_43)]) dX9_sign_43 (hN _ (Nat.le_of_ble_eq_true rfl)) rfl ?_
    refine x_iload_n C 45 3 dX9_sign_45 rfl ?_
    refine x_bipush C 46 dX9_sign_46 kb_43 ?_
    have hJ55 : ∀ (σ_55 : Wd) (v1_55 : Int32) (v2_55 : Int32) (v4_55 : Int32), Y K (Zm V) (M_X9_sign_J55 σ_55 v1_55 v2_55 v4_55) (fun q => q = (r, σ2)) σ_55 55 [(0, .ref (zA (Zm V) 0)), (1, .int v1_55), (2, .int v2_55), (4, .int v4_55)] [] := by
      intro σ_55 v1_55 v2_55 v4_55
      unfold M_X9_sign_J55
      refine x_iload_n C 55 2 dX9_sign_55 rfl ?_
      refine x_bipush C 56 dX9_sign_56 kb_45 ?_
      have hJ65 : ∀ (σ_65 : Wd) (v1_65 : Int32) (v2_65 : Int32) (v4_65 : Int32), Y K (Zm V) (M_X9_sign_J65 σ_65 v1_65 v2_65 v4_65) (fun q => q = (r, σ2)) σ_65 65 [(0, .ref (zA (Zm V) 0)), (1, .int v1_65), (2, .int v2_65), (4, .int v4_65)] [] := by
        intro σ_65 v1_65 v2_65 v4_65
        unfold M_X9_sign_J65
        refine x_iload_n C 65 2 dX9_sign_65 rfl ?_
        refine x_bipush C 66 dX9_sign_66 kb_42 ?_
        have hJ75 : ∀ (σ_75 : Wd) (v1_75 : Int32) (v2_75 : Int32) (v4_75 : Int32), Y K (Zm V) (M_X9_sign_J75 σ_75 v1_75 v2_75 v4_75) (fun q => q = (r, σ2)) σ_75 75 [(0, .ref (zA (Zm V) 0)), (1, .int v1_75), (2, .int v2_75), (4, .int v4_75)] [] := by
          intro σ_75 v1_75 v2_75 v4_75
          unfold M_X9_sign_J75
          refine x_iload_n C 75 2 dX9_sign_75 rfl ?_
          refine x_bipush C 76 dX9_sign_76 kb_47 ?_
          have hJ85 : ∀ (σ_85 : Wd) (v1_85 : Int32) (v2_85 : Int32) (v4_85 : Int32), Y K (Zm V) (M_X9_sign_J85 σ_85 v1_85 v2_85 v4_85) (fun q => q = (r, σ2)) σ_85 85 [(0, .ref (zA (Zm V) 0)), (1, .int v1_85), (2, .int v2_85), (4, .int v4_85)] [] := by
            intro σ_85 v1_85 v2_85 v4_85
            unfold M_X9_sign_J85
            refine x_iload_n C 85 2 dX9_sign_85 rfl ?_
            refine x_bipush C 86 dX9_sign_86 kb_60 ?_
            have hJ95 : ∀ (σ_95 : Wd) (v1_95 : Int32) (v4_95 : Int32), Y K (Zm V) (M_X9_sign_J95 σ_95 v1_95 v4_95) (fun q => q = (r, σ2)) σ_95 95 [(0, .ref (zA (Zm V) 0)), (1, .int v1_95), (4, .int v4_95)] [] := by
              intro σ_95 v1_95 v4_95
              unfold M_X9_sign_J95
              refine x_aload_n C 95 0 dX9_sign_95 rfl ?_
              refine x_iload C 96 2 dX9_sign_96 rfl ?_
              refine x_iload_n C 98 1 dX9_sign_98 rfl ?_
              refine x_iconst C 99 dX9_sign_99 ki_0 ?_
              refine x_lconst C 100 dX9_sign_100 kl_0 ?_
              refine Y_bnd1 (fun s_101 h101 => ?_)
              refine x_callVv C 101 [.int v4_95, .int v1_95, .int (0 : Int32), .long (0 : Int64)] [] rfl tw_1471 mv_X9_token (Nat.le_of_ble_eq_true rfl) (Nat.le_of_ble_eq_true rfl) (Nat.le_of_ble_eq_true rfl) (Nat.le_of_ble_eq_true rfl) (km_0 V _) rfl dX9_sign_101 (c_X9_token V _ _ _ _ _ _ h101) ?_
              refine x_iconst C 104 dX9_sign_104 ki_1 ?_
              exact x_iret2 C R 105 dX9_sign_105
            refine x_icmp_ne C 88 95 dX9_sign_88 (by decide) (fun _ => ?_) (fun _ => ?_)
            · refine Y_sub [0, 1, 3] rfl ?_
              exact hJ95 _ _ _
            · refine x_bipush C 91 dX9_sign_91 kb_13 ?_
              refine x_istore C 93 (L' := [(4, .int (13 : Int32)), (0, .ref (zA (Zm V) 0)), (1, .int v1_85), (2, .int v2_85)]) dX9_sign_93 (hN _ (Nat.le_of_ble_eq_true rfl)) rfl ?_
              refine Y_sub [1, 2, 0] rfl ?_
              exact hJ95 _ _ _
          refine x_icmp_ne C 78 85 dX9_sign_78 (by decide) (fun _ => ?_) (fun _ => ?_)
          · exact hJ85 _ _ _ _
          · refine x_bipush C 81 dX9_sign_81 kb_15 ?_
            refine x_istore C 83 (L' := [(4, .int (15 : Int32)), (0, .ref (zA (Zm V) 0)), (1, .int v1_75), (2, .int v2_75)]) dX9_sign_83 (hN _ (Nat.le_of_ble_eq_true rfl)) rfl ?_
            refine Y_sub [1, 2, 3, 0] rfl ?_
            exact hJ85 _ _ _ _
        refine x_icmp_ne C 68 75 dX9_sign_68 (by decide) (fun _ => ?_) (fun _ => ?_)
        · exact hJ75 _ _ _ _
        · refine x_bipush C 71 dX9_sign_71 kb_10 ?_
          refine x_istore C 73 (L' := [(4, .int (10 : Int32)), (0, .ref (zA (Zm V) 0)), (1, .int v1_65), (2, .int v2_65)]) dX9_sign_73 (hN _ (Nat.le_of_ble_eq_true rfl)) rfl ?_
          refine Y_sub [1, 2, 3, 0] rfl ?_
          exact hJ75 _ _ _ _
      refine x_icmp_ne C 58 65 dX9_sign_58 (by decide) (fun _ => ?_) (fun _ => ?_)
      · exact hJ65 _ _ _ _
      · refine x_bipush C 61 dX9_sign_61 kb_9 ?_
        refine x_istore C 63 (L' := [(4, .int (9 : Int32)), (0, .ref (zA (Zm V) 0)), (1, .int v1_55), (2, .int v2_55)]) dX9_sign_63 (hN _ (Nat.le_of_ble_eq_true rfl)) rfl ?_
        refine Y_sub [1, 2, 3, 0] rfl ?_
        exact hJ65 _ _ _ _
    refine x_icmp_ne C 48 55 dX9_sign_48 (by decide) (fun _ => ?_) (fun _ => ?_)
    · refine Y_sub [1, 2, 3, 0] rfl ?_
      exact hJ55 _ _ _ _
    · refine x_bipush C 51 dX9_sign_51 kb_8 ?_
      refine x_istore C 53 (L' := [(4, .int (8 : Int32)), (0, .ref (zA (Zm V) 0)), (1, .int v1_43), (2, .int v2_43)]) dX9_sign_53 (hN _ (Nat.le_of_ble_eq_true rfl)) rfl ?_
      refine Y_sub [1, 2, 3, 0] rfl ?_
      exact hJ55 _ _ _ _
  refine x_icmp_ne C 3 10 dX9_sign_3 (by decide) (fun _ => ?_) (fun _ => ?_)
  · refine x_iload_n C 10 2 dX9_sign_10 rfl ?_
    refine x_bipush C 11 dX9_sign_11 kb_61 ?_
    refine x_icmp_ne C 13 20 dX9_sign_13 (by decide) (fun _ => ?_) (fun _ => ?_)
    · refine x_iload_n C 20 2 dX9_sign_20 rfl ?_
      refine x_bipush C 21 dX9_sign_21 kb_40 ?_
      refine x_icmp_ne C 23 31 dX9_sign_23 (by decide) (fun _ => ?_) (fun _ => ?_)
      · refine x_iload_n C 31 2 dX9_sign_31 rfl ?_
        refine x_bipush C 32 dX9_sign_32 kb_41 ?_
        refine x_icmp_ne C 34 42 dX9_sign_34 (by decide) (fun _ => ?_) (fun _ => ?_)
        · refine x_iconst C 42 dX9_sign_42 ki_3 ?_
          refine Y_sub [0, 1, 2] rfl ?_
          exact hJ43 _ _ _ _
        · refine x_bipush C 37 dX9_sign_37 kb_7 ?_
          refine x_goto C 39 43 dX9_sign_39 (by decide) ?_
          refine Y_sub [0, 1, 2] rfl ?_
          exact hJ43 _ _ _ _
      · refine x_bipush C 26 dX9_sign_26 kb_6 ?_
        refine x_goto C 28 43 dX9_sign_28 (by decide) ?_
        refine Y_sub [0, 1, 2] rfl ?_
        exact hJ43 _ _ _ _
    · refine x_iconst C 16 dX9_sign_16 ki_5 ?_
      refine x_goto C 17 43 dX9_sign_17 (by decide) ?_
      refine Y_sub [0, 1, 2] rfl ?_
      exact hJ43 _ _ _ _
  · refine x_iconst C 6 dX9_sign_6 ki_4 ?_
    refine x_goto C 7 43 dX9_sign_7 (by decide) ?_
    refine Y_sub [0, 1, 2] rfl ?_
    exact hJ43 _ _ _ _
def M_X9_cut_L208 (σ : Wd) (v1 : Int32) (v3 : Int32) (v4 : Int32) : Option ((Int32 × Int32) ⊕ (Int32 × Int32)) :=
  bnd1 (M_X9_byteAt σ (v1 + v3)) fun r212 => bnd1 (M_X9_isDigit r212) fun r215 => if r215 = 0 then (some (.inr (v3, v4))) else (if (4 : Int32) ≤ v3 then (lt (v3 + (1 : Int32)) fun v3_244 => some (.inl (v3_244, v4))) else (bnd1 (M_X9_byteAt σ (v1 + v3)) fun r235 => lt ((((10 : Int32) * v4) + r235) - (48 : Int32)) fun v4_242 => lt (v3 + (1 : Int32)) fun v3_244 => some (.inl (v3_244, v4_242))))
def M_X9_cut_J261 (σ : Wd) (v1 : Int32) (v3 : Int32) (v4 : Int32) (t0 : Int32) : Option ((Int32 × Wd) ⊕ ((Wd) ⊕ Wd)) :=
  bnd1 (M_X9_token σ t0 v1 v4 (0 : Int64)) fun s_265 => lt (v1 + v3) fun v1_271 => some (.inl (v1_271, s_265))
def M_X9_cut_L85 (σ : Wd) (v1 : Int32) (v3 : Int32) (v4 : Int64) : Option ((Int32 × Int64) ⊕ (Int32 × Int64)) :=
  bnd1 (M_X9_byteAt σ (v1 + v3)) fun r89 => bnd1 (M_X9_isLetter r89) fun r92 => if r92 = 0 then (some (.inr (v3, v4))) else (if (8 : Int32) ≤ v3 then (lt (v3 + (1 : Int32)) fun v3_118 => some (.inl (v3_118, v4))) else (bnd1 (M_X9_byteAt σ (v1 + v3)) fun r110 => bnd1 (M_X9_appends v4 r110) fun r113 => lt (v3 + (1 : Int32)) fun v3_118 => some (.inl (v3_118, r113))))
def M_X9_cut_J179 (σ : Wd) (v1 : Int32) (v3 : Int32) (v4 : Int64) (v6 : Int32) : Option ((Int32 × Wd) ⊕ ((Wd) ⊕ Wd)) :=
  bnd1 (M_X9_token σ v6 v1 (0 : Int32) v4) fun s_186 => lt (v1 + v3) fun v1_192 => some (.inl (v1_192, s_186))
def M_X9_cut_L146 (σ : Wd) (v1 : Int32) (v3 : Int32) (v4 : Int64) (v6 : Int32) (v7 : Int32) : Option ((Int32 × Int32) ⊕ (Int32)) :=
  if (11 : Int32) ≤ v7 then (some (.inr v6)) else (chk (ib v7 11) (if (lg_cmp (gL σ 7 (ix v7)) v4) ≠ 0 then (lt (v7 + (1 : Int32)) fun v7_173 => some (.inl (v6, v7_173))) else (lt ((20 : Int32) + v7) fun v6_171 => lt (v7 + (1 : Int32)) fun v7_173 => some (.inl (v6_171, v7_173)))))
def M_X9_cut_J135 (σ : Wd) (v1 : Int32) (v3 : Int32) (v4 : Int64) (t0 : Int32) : Option ((Int32 × Wd) ⊕ ((Wd) ⊕ Wd)) :=
  if (8 : Int32) < v3 then (M_X9_cut_J179 σ v1 v3 v4 t0) else (bnd1 (iter (fun s : Int32 × Int32 => M_X9_cut_L146 σ v1 v3 v4 s.1 s.2) FU (t0, (0 : Int32))) (un1 fun x6_146 => (M_X9_cut_J179 σ v1 v3 v4 x6_146)))
def M_X9_cut_L7 (v1 : Int32) (σ : Wd) : Option ((Int32 × Wd) ⊕ ((Wd) ⊕ Wd)) :=
  if (400 : Int32) < (gI σ 0 10) then (some (.inr (.inr σ))) else (bnd1 (M_X9_byteAt σ v1) fun r19 => if v1 < (gI σ 0 4) then (if r19 = (9 : Int32) then (lt (v1 + (1 : Int32)) fun v1_67 => some (.inl (v1_67, σ))) else (if r19 = (10 : Int32) then (lt (v1 + (1 : Int32)) fun v1_67 => some (.inl (v1_67, σ))) else (if r19 = (13 : Int32) then (lt (v1 + (1 : Int32)) fun v1_67 => some (.inl (v1_67, σ))) else (if r19 ≠ (32 : Int32) then (bnd1 (M_X9_isLetter r19) fun r74 => if r74 = 0 then (bnd1 (M_X9_isDigit r19) fun r197 => if r197 = 0 then (bnd1 (M_X9_byteAt σ (v1 + (1 : Int32))) fun r283 => bnd2 (M_X9_sign σ v1 r19 r283) fun r286 s_286 => lt (v1 + r286) fun v1_290 => some (.inl (v1_290, s_286))) else (bnd1 (iter (fun s : Int32 × Int32 => M_X9_cut_L208 σ v1 s.1 s.2) FU ((0 : Int32), (0 : Int32))) (un2 fun x3_208 x4_208 => (if x3_208 ≤ (4 : Int32) then (M_X9_cut_J261 σ v1 x3_208 x4_208 (2 : Int32)) else (M_X9_cut_J261 σ v1 x3_208 x4_208 (3 : Int32)))))) else (bnd1 (iter (fun s : Int32 × Int64 => M_X9_cut_L85 σ v1 s.1 s.2) FU ((0 : Int32), (0 : Int64))) (un2 fun x3_85 x4_85 => (if x3_85 ≤ (8 : Int32) then (M_X9_cut_J135 σ v1 x3_85 x4_85 (1 : Int32)) else (M_X9_cut_J135 σ v1 x3_85 x4_85 (3 : Int32)))))) else (lt (v1 + (1 : Int32)) fun v1_67 => some (.inl (v1_67, σ))))))) else (some (.inr (.inl σ))))
def M_X9_cut (σ : Wd) : Option Wd :=
  lt (uI σ 0 10 (0 : Int32)) fun s_2 => bnd1 (iter (fun s : Int32 × Wd => M_X9_cut_L7 s.1 s.2) FU ((0 : Int32), s_2)) (sx (un1 fun sx_7 => (bnd1 (M_X9_token sx_7 (0 : Int32) (gI sx_7 0 4) (0 : Int32) (0 : Int64)) fun s_39 => some s_39)) (fun q => some q))
set_option maxRecDepth 100000 in
set_option maxHeartbeats 4000000 in
theorem c_X9_cut (V : Vt) (l : Launch) (σ : Wd) {σ2 : Wd} (h : M_X9_cut σ = some σ2) : Ct l (Zm V) yX9_cut cX9_cut 8 none 2 49 [.ref (zA (Zm V) 0)] σ none σ2 := by
  refine Ct_intro (own := RX9) zm_ok (by decide +kernel) rfl (Nat.le_of_ble_eq_true rfl) [(0, .ref (zA (Zm V) 0))] rfl (fun K C R hKl hnL => ?_)
  have hN := nl_of hnL
  subst hKl
  refine Y_end h ?_
  unfold M_X9_cut
  refine x_aload_n C 0 0 dX9_cut_0 rfl ?_
  refine x_iconst C 1 dX9_cut_1 ki_0 ?_
  refine fp_tokens C 2 dX9_cut_2 (fun s_2 => ?_)
  refine x_iconst C 5 dX9_cut_5 ki_0 ?_
  refine x_istore_n C 6 (L' := [(1, .int (0 : Int32)), (0, .ref (zA (Zm V) 0))]) dX9_cut_6 rfl (hN _ (Nat.le_of_ble_eq_true rfl)) rfl ?_
  refine Y_sub [1, 0] rfl ?_
  refine x_loop 7 (fun s : Int32 × Wd => s.2) (fun s : Int32 × Wd => [(0, .ref (zA (Zm V) 0)), (1, .int s.1)]) (fun E7 hb7 hx7 s => ?_) FU ((0 : Int32), s_2)
  obtain ⟨v1_7, s_7⟩ := s
  show Y K (Zm V) (M_X9_cut_L7 v1_7 s_7) E7 s_7 7 [(0, .ref (zA (Zm V) 0)), (1, .int v1_7)] []
  unfold M_X9_cut_L7
  refine x_aload_n C 7 0 dX9_cut_7 rfl ?_
  refine fg_tokens C 8 dX9_cut_8 ?_
  refine x_sipush C 11 dX9_cut_11 ks_400 ?_
  refine x_icmp_gt C 14 294 dX9_cut_14 (by decide) (fun _ => ?_) (fun _ => ?_)
  · refine x_exr hx7 _ ?_
    exact x_vret C R 294 dX9_cut_294
  · refine x_aload_n C 17 0 dX9_cut_17 rfl ?_
    refine x_iload_n C 18 1 dX9_cut_18 rfl ?_
    refine Y_bnd1 (fun r19 h19 => ?_)
    refine x_callVi C 19 [.int v1_7] [] rfl tw_1467 mv_X9_byteAt (Nat.le_of_ble_eq_true rfl) (Nat.le_of_ble_eq_true rfl) (Nat.le_of_ble_eq_true rfl) (Nat.le_of_ble_eq_true rfl) (km_0 V _) rfl dX9_cut_19 (c_X9_byteAt V _ _ _ h19) ?_
    refine x_istore_n C 22 (L' := [(2, .int r19), (0, .ref (zA (Zm V) 0)), (1, .int v1_7)]) dX9_cut_22 rfl (hN _ (Nat.le_of_ble_eq_true rfl)) rfl ?_
    refine x_iload_n C 23 2 dX9_cut_23 rfl ?_
    refine x_aload_n C 24 1 dX9_cut_24 rfl ?_
    refine fg_size C 25 dX9_cut_25 ?_
    refine x_icmp_lt C 28 43 dX9_cut_28 (by decide) (fun _ => ?_) (fun _ => ?_)
    · refine x_iload_n C 43 0 dX9_cut_43 rfl ?_
      refine x_bipush C 44 dX9_cut_44 kb_9 ?_
      refine x_icmp_eq C 46 67 dX9_cut_46 (by decide) (fun _ => ?_) (fun _ => ?_)
      · refine x_iinct C 67 2 (1 : Int32) (fun v1_67 => [(1, .int v1_67), (2, .int r19), (0, .ref (zA (Zm V) 0))]) dX9_cut_67 rfl ki_1 (hN _ (Nat.le_of_ble_eq_true rfl)) (fun _ => rfl) (fun v1_67 => ?_)
        refine x_goto C 70 291 dX9_cut_70 (by decide) ?_
        refine x_goto C 291 7 dX9_cut_291 (by decide) ?_
        refine Y_sub [2, 0] rfl ?_
        exact x_back (v1_67, s_7) (hb7 (v1_67, s_7))
      · refine x_iload_n C 49 0 dX9_cut_49 rfl ?_
        refine x_bipush C 50 dX9_cut_50 kb_10 ?_
        refine x_icmp_eq C 52 67 dX9_cut_52 (by decide) (fun _ => ?_) (fun _ => ?_)
        · refine x_iinct C 67 2 (1 : Int32) (fun v1_67 => [(1, .int v1_67), (2, .int r19), (0, .ref (zA (Zm V) 0))]) dX9_cut_67 rfl ki_1 (hN _ (Nat.le_of_ble_eq_true rfl)) (fun _ => rfl) (fun v1_67 => ?_)
          refine x_goto C 70 291 dX9_cut_70 (by decide) ?_
          refine x_goto C 291 7 dX9_cut_291 (by decide) ?_
          refine Y_sub [2, 0] rfl ?_
          exact x_back (v1_67, s_7) (hb7 (v1_67, s_7))
        · refine x_iload_n C 55 0 dX9_cut_55 rfl ?_
          refine x_bipush C 56 dX9_cut_56 kb_13 ?_
          refine x_icmp_eq C 58 67 dX9_cut_58 (by decide) (fun _ => ?_) (fun _ => ?_)
          · refine x_iinct C 67 2 (1 : Int32) (fun v1_67 => [(1, .int v1_67), (2, .int r19), (0, .ref (zA (Zm V) 0))]) dX9_cut_67 rfl ki_1 (hN _ (Nat.le_of_ble_eq_true rfl)) (fun _ => rfl) (fun v1_67 => ?_)
            refine x_goto C 70 291 dX9_cut_70 (by decide) ?_
            refine x_goto C 291 7 dX9_cut_291 (by decide) ?_
            refine Y_sub [2, 0] rfl ?_
            exact x_back (v1_67, s_7) (hb7 (v1_67, s_7))
          · refine x_iload_n C 61 0 dX9_cut_61 rfl ?_
            refine x_bipush C 62 dX9_cut_62 kb_32 ?_
            refine x_icmp_ne C 64 73 dX9_cut_64 (by decide) (fun _ => ?_) (fun _ => ?_)
            · refine x_iload_n C 73 0 dX9_cut_73 rfl ?_
              refine Y_bnd1 (fun r74 h74 => ?_)
              refine x_callSi C 74 [.int r19] [] rfl tw_1475 ms_X9_isLetter (Nat.le_of_ble_eq_true rfl) (Nat.le_of_ble_eq_true rfl) (Nat.le_of_ble_eq_true rfl) dX9_cut_74 (c_X9_isLetter V _ _ _ h74) ?_
              refine x_if_eq C 77 196 dX9_cut_77 (by decide) (fun _ => ?_) (fun _ => ?_)
              · refine x_iload_n C 196 0 dX9_cut_196 rfl ?_
                refine Y_bnd1 (fun r197 h197 => ?_)
                refine x_callSi C 197 [.int r19] [] rfl tw_1478 ms_X9_isDigit (Nat.le_of_ble_eq_true rfl) (Nat.le_of_ble_eq_true rfl) (Nat.le_of_ble_eq_true rfl) dX9_cut_197 (c_X9_isDigit V _ _ _ h197) ?_
                refine x_if_eq C 200 275 dX9_cut_200 (by decide) (fun _ => ?_) (fun _ => ?_)
                · refine x_iload_n C 275 2 dX9_cut_275 rfl ?_
                  refine x_aload_n C 276 1 dX9_cut_276 rfl ?_
                  refine x_iload_n C 277 2 dX9_cut_277 rfl ?_
                  refine x_iload_n C 278 0 dX9_cut_278 rfl ?_
                  refine x_aload_n C 279 1 dX9_cut_279 rfl ?_
                  refine x_iload_n C 280 2 dX9_cut_280 rfl ?_
                  refine x_iconst C 281 dX9_cut_281 ki_1 ?_
                  refine x_iadd C 282 dX9_cut_282 ?_
                  refine Y_bnd1 (fun r283 h283 => ?_)
                  refine x_callVi C 283 [.int (v1_7 + (1 : Int32))] [.int r19, .int v1_7, .ref (zA (Zm V) 0), .int v1_7] rfl tw_1467 mv_X9_byteAt (Nat.le_of_ble_eq_true rfl) (Nat.le_of_ble_eq_true rfl) (Nat.le_of_ble_eq_true rfl) (Nat.le_of_ble_eq_true rfl) (km_0 V _) rfl dX9_cut_283 (c_X9_byteAt V _ _ _ h283) ?_
                  refine Y_bnd2 (fun r286 s_286 h286 => ?_)
                  refine x_callVi C 286 [.int v1_7, .int r19, .int r283] [.int v1_7] rfl tw_1481 mv_X9_sign (Nat.le_of_ble_eq_true rfl) (Nat.le_of_ble_eq_true rfl) (Nat.le_of_ble_eq_true rfl) (Nat.le_of_ble_eq_true rfl) (km_0 V _) rfl dX9_cut_286 (c_X9_sign V _ _ _ _ _ h286) ?_
                  refine x_iadd C 289 dX9_cut_289 ?_
                  refine x_istore_nt C 290 (fun v1_290 => [(1, .int v1_290), (2, .int r19), (0, .ref (zA (Zm V) 0))]) dX9_cut_290 rfl (hN _ (Nat.le_of_ble_eq_true rfl)) (fun _ => rfl) (fun v1_290 => ?_)
                  refine x_goto C 291 7 dX9_cut_291 (by decide) ?_
                  refine Y_sub [2, 0] rfl ?_
                  exact x_back (v1_290, s_286) (hb7 (v1_290, s_286))
                · refine x_iconst C 203 dX9_cut_203 ki_0 ?_
                  refine x_istore_n C 204 (L' := [(3, .int (0 : Int32)), (2, .int r19), (0, .ref (zA (Zm V) 0)), (1, .int v1_7)]) dX9_cut_204 rfl (hN _ (Nat.le_of_ble_eq_true rfl)) rfl ?_
                  refine x_iconst C 205 dX9_cut_205 ki_0 ?_
                  refine x_istore C 206 (L' := [(4, .int (0 : Int32)), (3, .int (0 : Int32)), (2, .int r19), (0, .ref (zA (Zm V) 0)), (1, .int v1_7)]) dX9_cut_206 (hN _ (Nat.le_of_ble_eq_true rfl)) rfl ?_
                  refine Y_sub [3, 4, 1, 0] rfl ?_
                  refine x_loop 208 (fun s : Int32 × Int32 => s_7) (fun s : Int32 × Int32 => [(0, .ref (zA (Zm V) 0)), (1, .int v1_7), (3, .int s.1), (4, .int s.2)]) (fun E208 hb208 hx208 s => ?_) FU ((0 : Int32), (0 : Int32))
                  obtain ⟨v3_208, v4_208⟩ := s
                  show Y K (Zm V) (M_X9_cut_L208 s_7 v1_7 v3_208 v4_208) E208 s_7 208 [(0, .ref (zA (Zm V) 0)), (1, .int v1_7), (3, .int v3_208), (4, .int v4_208)] []
                  unfold M_X9_cut_L208
                  refine x_aload_n C 208 0 dX9_cut_208 rfl ?_
                  refine x_iload_n C 209 1 dX9_cut_209 rfl ?_
                  refine x_iload_n C 210 2 dX9_cut_210 rfl ?_
                  refine x_iadd C 211 dX9_cut_211 ?_
                  refine Y_bnd1 (fun r212 h212 => ?_)
                  refine x_callVi C 212 [.int (v1_7 + v3_208)] [] rfl tw_1467 mv_X9_byteAt (Nat.le_of_ble_eq_true rfl) (Nat.le_of_ble_eq_true rfl) (Nat.le_of_ble_eq_true rfl) (Nat.le_of_ble_eq_true rfl) (km_0 V _) rfl dX9_cut_212 (c_X9_byteAt V _ _ _ h212) ?_
                  refine Y_bnd1 (fun r215 h215 => ?_)
                  refine x_callSi C 215 [.int r212] [] rfl tw_1478 ms_X9_isDigit (Nat.le_of_ble_eq_true rfl) (Nat.le_of_ble_eq_true rfl) (Nat.le_of_ble_eq_true rfl) dX9_cut_215 (c_X9_isDigit V _ _ _ h215) ?_
                  refine x_if_eq C 218 250 dX9_cut_218 (by decide) (fun _ => ?_) (fun _ => ?_)
                  · refine x_ex2 hx208 v3_208 v4_208 ?_
                    refine x_aload_n C 250 0 dX9_cut_250 rfl ?_
                    refine x_iload_n C 251 2 dX9_cut_251 rfl ?_
                    refine x_iconst C 252 dX9_cut_252 ki_4 ?_
                    have hJ261 : ∀ (σ_261 : Wd) (v1_261 : Int32) (v3_261 : Int32) (v4_261 : Int32) (t0_261 : Int32), Y K (Zm V) (M_X9_cut_J261 σ_261 v1_261 v3_261 v4_261 t0_261) E7 σ_261 261 [(0, .ref (zA (Zm V) 0)), (1, .int v1_261), (3, .int v3_261), (4, .int v4_261)] [.int t0_261, .ref (zA (Zm V) 0)] := by
                      intro σ_261 v1_261 v3_261 v4_261 t0_261
                      unfold M_X9_cut_J261
                      refine x_iload_n C 261 1 dX9_cut_261 rfl ?_
                      refine x_iload C 262 3 dX9_cut_262 rfl ?_
                      refine x_lconst C 264 dX9_cut_264 kl_0 ?_
                      refine Y_bnd1 (fun s_265 h265 => ?_)
                      refine x_callVv C 265 [.int t0_261, .int v1_261, .int v4_261, .long (0 : Int64)] [] rfl tw_1471 mv_X9_token (Nat.le_of_ble_eq_true rfl) (Nat.le_of_ble_eq_true rfl) (Nat.le_of_ble_eq_true rfl) (Nat.le_of_ble_eq_true rfl) (km_0 V _) rfl dX9_cut_265 (c_X9_token V _ _ _ _ _ _ h265) ?_
                      refine x_iload_n C 268 1 dX9_cut_268 rfl ?_
                      refine x_iload_n C 269 2 dX9_cut_269 rfl ?_
                      refine x_iadd C 270 dX9_cut_270 ?_
                      refine x_istore_nt C 271 (fun v1_271 => [(1, .int v1_271), (0, .ref (zA (Zm V) 0)), (3, .int v3_261), (4, .int v4_261)]) dX9_cut_271 rfl (hN _ (Nat.le_of_ble_eq_true rfl)) (fun _ => rfl) (fun v1_271 => ?_)
                      refine x_goto C 272 291 dX9_cut_272 (by decide) ?_
                      refine x_goto C 291 7 dX9_cut_291 (by decide) ?_
                      refine Y_sub [1, 0] rfl ?_
                      exact x_back (v1_271, s_265) (hb7 (v1_271, s_265))
                    refine x_icmp_le C 253 260 dX9_cut_253 (by decide) (fun _ => ?_) (fun _ => ?_)
                    · refine x_iconst C 260 dX9_cut_260 ki_2 ?_
                      exact hJ261 _ _ _ _ _
                    · refine x_iconst C 256 dX9_cut_256 ki_3 ?_
                      refine x_goto C 257 261 dX9_cut_257 (by decide) ?_
                      exact hJ261 _ _ _ _ _
                  · refine x_iload_n C 221 2 dX9_cut_221 rfl ?_
                    refine x_iconst C 222 dX9_cut_222 ki_4 ?_
                    refine x_icmp_ge C 223 244 dX9_cut_223 (by decide) (fun _ => ?_) (fun _ => ?_)
                    · refine x_iinct C 244 2 (1 : Int32) (fun v3_244 => [(3, .int v3_244), (0, .ref (zA (Zm V) 0)), (1, .int v1_7), (4, .int v4_208)]) dX9_cut_244 rfl ki_1 (hN _ (Nat.le_of_ble_eq_true rfl)) (fun _ => rfl) (fun v3_244 => ?_)
                      refine x_goto C 247 208 dX9_cut_247 (by decide) ?_
                      refine Y_sub [1, 2, 0, 3] rfl ?_
                      exact x_back (v3_244, v4_208) (hb208 (v3_244, v4_208))
                    · refine x_bipush C 226 dX9_cut_226 kb_10 ?_
                      refine x_iload C 228 3 dX9_cut_228 rfl ?_
                      refine x_imul C 230 dX9_cut_230 ?_
                      refine x_aload_n C 231 0 dX9_cut_231 rfl ?_
                      refine x_iload_n C 232 1 dX9_cut_232 rfl ?_
                      refine x_iload_n C 233 2 dX9_cut_233 rfl ?_
                      refine x_iadd C 234 dX9_cut_234 ?_
                      refine Y_bnd1 (fun r235 h235 => ?_)
                      refine x_callVi C 235 [.int (v1_7 + v3_208)] [.int ((10 : Int32) * v4_208)] rfl tw_1467 mv_X9_byteAt (Nat.le_of_ble_eq_true rfl) (Nat.le_of_ble_eq_true rfl) (Nat.le_of_ble_eq_true rfl) (Nat.le_of_ble_eq_true rfl) (km_0 V _) rfl dX9_cut_235 (c_X9_byteAt V _ _ _ h235) ?_
                      refine x_iadd C 238 dX9_cut_238 ?_
                      refine x_bipush C 239 dX9_cut_239 kb_48 ?_
                      refine x_isub C 241 dX9_cut_241 ?_
                      refine x_istoret C 242 (fun v4_242 => [(4, .int v4_242), (0, .ref (zA (Zm V) 0)), (1, .int v1_7), (3, .int v3_208)]) dX9_cut_242 (hN _ (Nat.le_of_ble_eq_true rfl)) (fun _ => rfl) (fun v4_242 => ?_)
                      refine x_iinct C 244 3 (1 : Int32) (fun v3_244 => [(3, .int v3_244), (4, .int v4_242), (0, .ref (zA (Zm V) 0)), (1, .int v1_7)]) dX9_cut_244 rfl ki_1 (hN _ (Nat.le_of_ble_eq_true rfl)) (fun _ => rfl) (fun v3_244 => ?_)
                      refine x_goto C 247 208 dX9_cut_247 (by decide) ?_
                      refine Y_sub [2, 3, 0, 1] rfl ?_
                      exact x_back (v3_244, v4_242) (hb208 (v3_244, v4_242))
              · refine x_iconst C 80 dX9_cut_80 ki_0 ?_
                refine x_istore_n C 81 (L' := [(3, .int (0 : Int32)), (2, .int r19), (0, .ref (zA (Zm V) 0)), (1, .int v1_7)]) dX9_cut_81 rfl (hN _ (Nat.le_of_ble_eq_true rfl)) rfl ?_
                refine x_lconst C 82 dX9_cut_82 kl_0 ?_
                refine x_lstore C 83 (L' := [(4, .long (0 : Int64)), (3, .int (0 : Int32)), (2, .int r19), (0, .ref (zA (Zm V) 0)), (1, .int v1_7)]) dX9_cut_83 (hN _ (Nat.le_of_ble_eq_true rfl)) rfl ?_
                refine Y_sub [3, 4, 1, 0] rfl ?_
                refine x_loop 85 (fun s : Int32 × Int64 => s_7) (fun s : Int32 × Int64 => [(0, .ref (zA (Zm V) 0)), (1, .int v1_7), (3, .int s.1), (4, .long s.2)]) (fun E85 hb85 hx85 s => ?_) FU ((0 : Int32), (0 : Int64))
                obtain ⟨v3_85, v4_85⟩ := s
                show Y K (Zm V) (M_X9_cut_L85 s_7 v1_7 v3_85 v4_85) E85 s_7 85 [(0, .ref (zA (Zm V) 0)), (1, .int v1_7), (3, .int v3_85), (4, .long v4_85)] []
                unfold M_X9_cut_L85
                refine x_aload_n C 85 0 dX9_cut_85 rfl ?_
                refine x_iload_n C 86 1 dX9_cut_86 rfl ?_
                refine x_iload_n C 87 2 dX9_cut_87 rfl ?_
                refine x_iadd C 88 dX9_cut_88 ?_
                refine Y_bnd1 (fun r89 h89 => ?_)
                refine x_callVi C 89 [.int (v1_7 + v3_85)] [] rfl tw_1467 mv_X9_byteAt (Nat.le_of_ble_eq_true rfl) (Nat.le_of_ble_eq_true rfl) (Nat.le_of_ble_eq_true rfl) (Nat.le_of_ble_eq_true rfl) (km_0 V _) rfl dX9_cut_89 (c_X9_byteAt V _ _ _ h89) ?_
                refine Y_bnd1 (fun r92 h92 => ?_)
                refine x_callSi C 92 [.int r89] [] rfl tw_1475 ms_X9_isLetter (Nat.le_of_ble_eq_true rfl) (Nat.le_of_ble_eq_true rfl) (Nat.le_of_ble_eq_true rfl) dX9_cut_92 (c_X9_isLetter V _ _ _ h92) ?_
                refine x_if_eq C 95 124 dX9_cut_95 (by decide) (fun _ => ?_) (fun _ => ?_)
                · refine x_ex2 hx85 v3_85 v4_85 ?_
                  refine x_iload_n C 124 2 dX9_cut_124 rfl ?_
                  refine x_bipush C 125 dX9_cut_125 kb_8 ?_
                  have hJ135 : ∀ (σ_135 : Wd) (v1_135 : Int32) (v3_135 : Int32) (v4_135 : Int64) (t0_135 : Int32), Y K (Zm V) (M_X9_cut_J135 σ_135 v1_135 v3_135 v4_135 t0_135) E7 σ_135 135 [(0, .ref (zA (Zm V) 0)), (1, .int v1_135), (3, .int v3_135), (4, .long v4_135)] [.int t0_135] := by
                    intro σ_135 v1_135 v3_135 v4_135 t0_135
                    unfold M_X9_cut_J135
                    refine x_istore C 135 (L' := [(6, .int t0_135), (0, .ref (zA (Zm V) 0)), (1, .int v1_135), (3, .int v3_135), (4, .long v4_135)]) dX9_cut_135 (hN _ (Nat.le_of_ble_eq_true rfl)) rfl ?_
                    refine x_iload_n C 137 3 dX9_cut_137 rfl ?_
                    refine x_bipush C 138 dX9_cut_138 kb_8 ?_
                    have hJ179 : ∀ (σ_179 : Wd) (v1_179 : Int32) (v3_179 : Int32) (v4_179 : Int64) (v6_179 : Int32), Y K (Zm V) (M_X9_cut_J179 σ_179 v1_179 v3_179 v4_179 v6_179) E7 σ_179 179 [(0, .ref (zA (Zm V) 0)), (1, .int v1_179), (3, .int v3_179), (4, .long v4_179), (6, .int v6_179)] [] := by
                      intro σ_179 v1_179 v3_179 v4_179 v6_179
                      unfold M_X9_cut_J179
                      refine x_aload_n C 179 0 dX9_cut_179 rfl ?_
                      refine x_iload C 180 4 dX9_cut_180 rfl ?_
                      refine x_iload_n C 182 1 dX9_cut_182 rfl ?_
                      refine x_iconst C 183 dX9_cut_183 ki_0 ?_
                      refine x_lload C 184 3 dX9_cut_184 rfl ?_
                      refine Y_bnd1 (fun s_186 h186 => ?_)
                      refine x_callVv C 186 [.int v6_179, .int v1_179, .int (0 : Int32), .long v4_179] [] rfl tw_1471 mv_X9_token (Nat.le_of_ble_eq_true rfl) (Nat.le_of_ble_eq_true rfl) (Nat.le_of_ble_eq_true rfl) (Nat.le_of_ble_eq_true rfl) (km_0 V _) rfl dX9_cut_186 (c_X9_token V _ _ _ _ _ _ h186) ?_
                      refine x_iload_n C 189 1 dX9_cut_189 rfl ?_
                      refine x_iload_n C 190 2 dX9_cut_190 rfl ?_
                      refine x_iadd C 191 dX9_cut_191 ?_
                      refine x_istore_nt C 192 (fun v1_192 => [(1, .int v1_192), (0, .ref (zA (Zm V) 0)), (3, .int v3_179), (4, .long v4_179), (6, .int v6_179)]) dX9_cut_192 rfl (hN _ (Nat.le_of_ble_eq_true rfl)) (fun _ => rfl) (fun v1_192 => ?_)
                      refine x_goto C 193 291 dX9_cut_193 (by decide) ?_
                      refine x_goto C 291 7 dX9_cut_291 (by decide) ?_
                      refine Y_sub [1, 0] rfl ?_
                      exact x_back (v1_192, s_186) (hb7 (v1_192, s_186))
                    refine x_icmp_gt C 140 179 dX9_cut_140 (by decide) (fun _ => ?_) (fun _ => ?_)
                    · refine Y_sub [1, 2, 3, 4, 0] rfl ?_
                      exact hJ179 _ _ _ _ _
                    · refine x_iconst C 143 dX9_cut_143 ki_0 ?_
                      refine x_istore C 144 (L' := [(7, .int (0 : Int32)), (6, .int t0_135), (0, .ref (zA (Zm V) 0)), (1, .int v1_135), (3, .int v3_135), (4, .long v4_135)]) dX9_cut_144 (hN _ (Nat.le_of_ble_eq_true rfl)) rfl ?_
                      refine Y_sub [2, 3, 4, 5, 1, 0] rfl ?_
                      refine x_loop 146 (fun s : Int32 × Int32 => σ_135) (fun s : Int32 × Int32 => [(0, .ref (zA (Zm V) 0)), (1, .int v1_135), (3, .int v3_135), (4, .long v4_135), (6, .int s.1), (7, .int s.2)]) (fun E146 hb146 hx146 s => ?_) FU (t0_135, (0 : Int32))
                      obtain ⟨v6_146, v7_146⟩ := s
                      show Y K (Zm V) (M_X9_cut_L146 σ_135 v1_135 v3_135 v4_135 v6_146 v7_146) E146 σ_135 146 [(0, .ref (zA (Zm V) 0)), (1, .int v1_135), (3, .int v3_135), (4, .long v4_135), (6, .int v6_146), (7, .int v7_146)] []
                      unfold M_X9_cut_L146
                      refine x_iload C 146 5 dX9_cut_146 rfl ?_
                      refine x_bipush C 148 dX9_cut_148 kb_11 ?_
                      refine x_icmp_ge C 150 179 dX9_cut_150 (by decide) (fun _ => ?_) (fun _ => ?_)
                      · refine x_ex1 hx146 v6_146 ?_
                        refine Y_sub [0, 1, 2, 3, 4] rfl ?_
                        exact hJ179 _ _ _ _ _
                      · refine x_aload_n C 153 0 dX9_cut_153 rfl ?_
                        refine fg_keys C 154 dX9_cut_154 ?_
                        refine x_iload C 157 5 dX9_cut_157 rfl ?_
                        refine x_lald C 159 (Nat.le_of_ble_eq_true rfl) (km_7 V _) dX9_cut_159 (fun _ => ?_)
                        refine x_lload C 160 3 dX9_cut_160 rfl ?_
                        refine x_lcmp C 162 dX9_cut_162 ?_
                        refine x_if_ne C 163 173 dX9_cut_163 (by decide) (fun _ => ?_) (fun _ => ?_)
                        · refine x_iinct C 173 5 (1 : Int32) (fun v7_173 => [(7, .int v7_173), (0, .ref (zA (Zm V) 0)), (1, .int v1_135), (3, .int v3_135), (4, .long v4_135), (6, .int v6_146)]) dX9_cut_173 rfl ki_1 (hN _ (Nat.le_of_ble_eq_true rfl)) (fun _ => rfl) (fun v7_173 => ?_)
                          refine x_goto C 176 146 dX9_cut_176 (by decide) ?_
                          refine Y_sub [1, 2, 3, 4, 5, 0] rfl ?_
                          exact x_back (v6_146, v7_173) (hb146 (v6_146, v7_173))
                        · refine x_bipush C 166 dX9_cut_166 kb_20 ?_
                          refine x_iload C 168 5 dX9_cut_168 rfl ?_
                          refine x_iadd C 170 dX9_cut_170 ?_
                          refine x_istoret C 171 (fun v6_171 => [(6, .int v6_171), (0, .ref (zA (Zm V) 0)), (1, .int v1_135), (3, .int v3_135), (4, .long v4_135), (7, .int v7_146)]) dX9_cut_171 (hN _ (Nat.le_of_ble_eq_true rfl)) (fun _ => rfl) (fun v6_171 => ?_)
                          refine x_iinct C 173 5 (1 : Int32) (fun v7_173 => [(7, .int v7_173), (6, .int v6_171), (0, .ref (zA (Zm V) 0)), (1, .int v1_135), (3, .int v3_135), (4, .long v4_135)]) dX9_cut_173 rfl ki_1 (hN _ (Nat.le_of_ble_eq_true rfl)) (fun _ => rfl) (fun v7_173 => ?_)
                          refine x_goto C 176 146 dX9_cut_176 (by decide) ?_
                          refine Y_sub [2, 3, 4, 5, 1, 0] rfl ?_
                          exact x_back (v6_171, v7_173) (hb146 (v6_171, v7_173))
                  refine x_icmp_le C 127 134 dX9_cut_127 (by decide) (fun _ => ?_) (fun _ => ?_)
                  · refine x_iconst C 134 dX9_cut_134 ki_1 ?_
                    exact hJ135 _ _ _ _ _
                  · refine x_iconst C 130 dX9_cut_130 ki_3 ?_
                    refine x_goto C 131 135 dX9_cut_131 (by decide) ?_
                    exact hJ135 _ _ _ _ _
                · refine x_iload_n C 98 2 dX9_cut_98 rfl ?_
                  refine x_bipush C 99 dX9_cut_99 kb_8 ?_
                  refine x_icmp_ge C 101 118 dX9_cut_101 (by decide) (fun _ => ?_) (fun _ => ?_)
                  · refine x_iinct C 118 2 (1 : Int32) (fun v3_118 => [(3, .int v3_118), (0, .ref (zA (Zm V) 0)), (1, .int v1_7), (4, .long v4_85)]) dX9_cut_118 rfl ki_1 (hN _ (Nat.le_of_ble_eq_true rfl)) (fun _ => rfl) (fun v3_118 => ?_)
                    refine x_goto C 121 85 dX9_cut_121 (by decide) ?_
                    refine Y_sub [1, 2, 0, 3] rfl ?_
                    exact x_back (v3_118, v4_85) (hb85 (v3_118, v4_85))
                  · refine x_lload C 104 3 dX9_cut_104 rfl ?_
                    refine x_aload_n C 106 0 dX9_cut_106 rfl ?_
                    refine x_iload_n C 107 1 dX9_cut_107 rfl ?_
                    refine x_iload_n C 108 2 dX9_cut_108 rfl ?_
                    refine x_iadd C 109 dX9_cut_109 ?_
                    refine Y_bnd1 (fun r110 h110 => ?_)
                    refine x_callVi C 110 [.int (v1_7 + v3_85)] [.long v4_85] rfl tw_1467 mv_X9_byteAt (Nat.le_of_ble_eq_true rfl) (Nat.le_of_ble_eq_true rfl) (Nat.le_of_ble_eq_true rfl) (Nat.le_of_ble_eq_true rfl) (km_0 V _) rfl dX9_cut_110 (c_X9_byteAt V _ _ _ h110) ?_
                    refine Y_bnd1 (fun r113 h113 => ?_)
                    refine x_callSl C 113 [.long v4_85, .int r110] [] rfl tw_1258 ms_X9_appends (Nat.le_of_ble_eq_true rfl) (Nat.le_of_ble_eq_true rfl) (Nat.le_of_ble_eq_true rfl) dX9_cut_113 (c_X9_appends V _ _ _ _ h113) ?_
                    refine x_lstore C 116 (L' := [(4, .long r113), (0, .ref (zA (Zm V) 0)), (1, .int v1_7), (3, .int v3_85)]) dX9_cut_116 (hN _ (Nat.le_of_ble_eq_true rfl)) rfl ?_
                    refine x_iinct C 118 3 (1 : Int32) (fun v3_118 => [(3, .int v3_118), (4, .long r113), (0, .ref (zA (Zm V) 0)), (1, .int v1_7)]) dX9_cut_118 rfl ki_1 (hN _ (Nat.le_of_ble_eq_true rfl)) (fun _ => rfl) (fun v3_118 => ?_)
                    refine x_goto C 121 85 dX9_cut_121 (by decide) ?_
                    refine Y_sub [2, 3, 0, 1] rfl ?_
                    exact x_back (v3_118, r113) (hb85 (v3_118, r113))
            · refine x_iinct C 67 2 (1 : Int32) (fun v1_67 => [(1, .int v1_67), (2, .int r19), (0, .ref (zA (Zm V) 0))]) dX9_cut_67 rfl ki_1 (hN _ (Nat.le_of_ble_eq_true rfl)) (fun _ => rfl) (fun v1_67 => ?_)
              refine x_goto C 70 291 dX9_cut_70 (by decide) ?_
              refine x_goto C 291 7 dX9_cut_291 (by decide) ?_
              refine Y_sub [2, 0] rfl ?_
              exact x_back (v1_67, s_7) (hb7 (v1_67, s_7))
    · refine x_exl1 hx7 s_7 ?_
      refine x_aload_n C 31 1 dX9_cut_31 rfl ?_
      refine x_iconst C 32 dX9_cut_32 ki_0 ?_
      refine x_aload_n C 33 1 dX9_cut_33 rfl ?_
      refine fg_size C 34 dX9_cut_34 ?_
      refine x_iconst C 37 dX9_cut_37 ki_0 ?_
      refine x_lconst C 38 dX9_cut_38 kl_0 ?_
      refine Y_bnd1 (fun s_39 h39 => ?_)
      refine x_callVv C 39 [.int (0 : Int32), .int (gI s_7 0 4), .int (0 : Int32), .long (0 : Int64)] [] rfl tw_1471 mv_X9_token (Nat.le_of_ble_eq_true rfl) (Nat.le_of_ble_eq_true rfl) (Nat.le_of_ble_eq_true rfl) (Nat.le_of_ble_eq_true rfl) (km_0 V _) rfl dX9_cut_39 (c_X9_token V _ _ _ _ _ _ h39) ?_
      exact x_vret C R 42 dX9_cut_42
def M_X9_is (σ : Wd) (v1 : Int32) : Option Int32 :=
  if (gI σ 0 13) ≠ 0 then (some (0 : Int32)) else (chk (ib (gI σ 0 11) 403) (if (gI σ 3 (ix (gI σ 0 11))) ≠ v1 then (some (0 : Int32)) else (some (1 : Int32))))
set_option maxRecDepth 100000 in
set_option maxHeartbeats 4000000 in
theorem c_X9_is (V : Vt) (l : Launch) (σ : Wd) (v1 : Int32) {r : Int32} (h : M_X9_is σ v1 = some r) : Ct l (Zm V) yX9_is cX9_is 2 (some .boolean) 0 0 [.ref (zA (Zm V) 0), .int v1] σ (some (.int r)) σ := by
  refine Ct_intro (own := RX9) zm_ok (by decide +kernel) rfl (Nat.le_of_ble_eq_true rfl) [(0, .ref (zA (Zm V) 0)), (1, .int v1)] rfl (fun K C R hKl hnL => ?_)
  have hN := nl_of hnL
  subst hKl
  refine Y_end h ?_
  unfold M_X9_is
  refine x_aload_n C 0 0 dX9_is_0 rfl ?_
  refine fg_fault C 1 dX9_is_1 ?_
  refine x_if_ne C 4 24 dX9_is_4 (by decide) (fun _ => ?_) (fun _ => ?_)
  · refine x_iconst C 24 dX9_is_24 ki_0 ?_
    exact x_zret1 C R 25 (zb_nar (r := (0 : Int32)) (Or.inl rfl)) dX9_is_25
  · refine x_aload_n C 7 0 dX9_is_7 rfl ?_
    refine fg_tKind C 8 dX9_is_8 ?_
    refine x_aload_n C 11 0 dX9_is_11 rfl ?_
    refine fg_t C 12 dX9_is_12 ?_
    refine x_iald C 15 (Nat.le_of_ble_eq_true rfl) (km_3 V _) dX9_is_15 (fun _ => ?_)
    refine x_iload_n C 16 1 dX9_is_16 rfl ?_
    refine x_icmp_ne C 17 24 dX9_is_17 (by decide) (fun _ => ?_) (fun _ => ?_)
    · refine x_iconst C 24 dX9_is_24 ki_0 ?_
      exact x_zret1 C R 25 (zb_nar (r := (0 : Int32)) (Or.inl rfl)) dX9_is_25
    · refine x_iconst C 20 dX9_is_20 ki_1 ?_
      refine x_goto C 21 25 dX9_is_21 (by decide) ?_
      exact x_zret1 C R 25 (zb_nar (r := (1 : Int32)) (Or.inr rfl)) dX9_is_25
def M_X9_fail (σ : Wd) (v1 : Int32) : Option Wd :=
  if (gI σ 0 13) ≤ 0 then (lt (uI σ 0 13 v1) fun s_10 => chk (ib (gI s_10 0 11) 403) (lt (uI s_10 0 14 (gI s_10 4 (ix (gI s_10 0 11)))) fun s_23 => some s_23)) else (some σ)
set_option maxRecDepth 100000 in
set_option maxHeartbeats 4000000 in
theorem c_X9_fail (V : Vt) (l : Launch) (σ : Wd) (v1 : Int32) {σ2 : Wd} (h : M_X9_fail σ v1 = some σ2) : Ct l (Zm V) yX9_fail cX9_fail 2 none 0 0 [.ref (zA (Zm V) 0), .int v1] σ none σ2 := by
  refine Ct_intro (own := RX9) zm_ok (by decide +kernel) rfl (Nat.le_of_ble_eq_true rfl) [(0, .ref (zA (Zm V) 0)), (1, .int v1)] rfl (fun K C R hKl hnL => ?_)
  have hN := nl_of hnL
  subst hKl
  refine Y_end h ?_
  unfold M_X9_fail
  refine x_aload_n C 0 0 dX9_fail_0 rfl ?_
  refine fg_fault C 1 dX9_fail_1 ?_
  refine x_if_le C 4 8 dX9_fail_4 (by decide) (fun _ => ?_) (fun _ => ?_)
  · refine x_aload_n C 8 0 dX9_fail_8 rfl ?_
    refine x_iload_n C 9 1 dX9_fail_9 rfl ?_
    refine fp_fault C 10 dX9_fail_10 (fun s_10 => ?_)
    refine x_aload_n C 13 0 dX9_fail_13 rfl ?_
    refine x_aload_n C 14 0 dX9_fail_14 rfl ?_
    refine fg_tPlace C 15 dX9_fail_15 ?_
    refine x_aload_n C 18 0 dX9_fail_18 rfl ?_
    refine fg_t C 19 dX9_fail_19 ?_
    refine x_iald C 22 (Nat.le_of_ble_eq_true rfl) (km_4 V _) dX9_fail_22 (fun _ => ?_)
    refine fp_faultPlace C 23 dX9_fail_23 (fun s_23 => ?_)
    exact x_vret C R 26 dX9_fail_26
  · exact x_vret C R 7 dX9_fail_7
def M_X9_wrong_J46 (σ : Wd) (v1 : Int32) (v3 : Int32) : Option Wd :=
  lt (uI σ 0 15 v1) fun s_48 => lt (uI s_48 0 16 v3) fun s_53 => some s_53
def M_X9_wrong (σ : Wd) (v1 : Int32) (v2 : Int32) : Option Wd :=
  chk (ib v2 403) (lt (gI σ 4 (ix v2)) fun v3_6 => if 0 < (gI σ 0 13) then (some σ) else (if (gI σ 0 15) = 0 then (M_X9_wrong_J46 σ v1 v3_6) else (if (gI σ 0 16) < v3_6 then (some σ) else (if v3_6 ≠ (gI σ 0 16) then (M_X9_wrong_J46 σ v1 v3_6) else (if v1 < (gI σ 0 15) then (M_X9_wrong_J46 σ v1 v3_6) else (some σ))))))
set_option maxRecDepth 100000 in
set_option maxHeartbeats 4000000 in
theorem c_X9_wrong (V : Vt) (l : Launch) (σ : Wd) (v1 : Int32) (v2 : Int32) {σ2 : Wd} (h : M_X9_wrong σ v1 v2 = some σ2) : Ct l (Zm V) yX9_wrong cX9_wrong 4 none 0 0 [.ref (zA (Zm V) 0), .int v1, .int v2] σ none σ2 := by
  refine Ct_intro (own := RX9) zm_ok (by decide +kernel) rfl (Nat.le_of_ble_eq_true rfl) [(0, .ref (zA (Zm V) 0)), (1, .int v1), (2, .int v2)] rfl (fun K C R hKl hnL => ?_)
  have hN := nl_of hnL
  subst hKl
  refine Y_end h ?_
  unfold M_X9_wrong
  refine x_aload_n C 0 0 dX9_wrong_0 rfl ?_
  refine fg_tPlace C 1 dX9_wrong_1 ?_
  refine x_iload_n C 4 2 dX9_wrong_4 rfl ?_
  refine x_iald C 5 (Nat.le_of_ble_eq_true rfl) (km_4 V _) dX9_wrong_5 (fun _ => ?_)
  refine x_istore_nt C 6 (fun v3_6 => [(3, .int v3_6), (0, .ref (zA (Zm V) 0)), (1, .int v1), (2, .int v2)]) dX9_wrong_6 rfl (hN _ (Nat.le_of_ble_eq_true rfl)) (fun _ => rfl) (fun v3_6 => ?_)
  refine x_aload_n C 7 1 dX9_wrong_7 rfl ?_
  refine fg_fault C 8 dX9_wrong_8 ?_
  refine x_if_gt C 11 45 dX9_wrong_11 (by decide) (fun _ => ?_) (fun _ => ?_)
  · exact x_vret C R 45 dX9_wrong_45
  · refine x_aload_n C 14 1 dX9_wrong_14 rfl ?_
    refine fg_worst C 15 dX9_wrong_15 ?_
    have hJ46 : ∀ (σ_46 : Wd) (v1_46 : Int32) (v3_46 : Int32), Y K (Zm V) (M_X9_wrong_J46 σ_46 v1_46 v3_46) (fun q => q = σ2) σ_46 46 [(0, .ref (zA (Zm V) 0)), (1, .int v1_46), (3, .int v3_46)] [] := by
      intro σ_46 v1_46 v3_46
      unfold M_X9_wrong_J46
      refine x_aload_n C 46 0 dX9_wrong_46 rfl ?_
      refine x_iload_n C 47 1 dX9_wrong_47 rfl ?_
      refine fp_worst C 48 dX9_wrong_48 (fun s_48 => ?_)
      refine x_aload_n C 51 0 dX9_wrong_51 rfl ?_
      refine x_iload_n C 52 2 dX9_wrong_52 rfl ?_
      refine fp_worstPlace C 53 dX9_wrong_53 (fun s_53 => ?_)
      exact x_vret C R 56 dX9_wrong_56
    refine x_if_eq C 18 46 dX9_wrong_18 (by decide) (fun _ => ?_) (fun _ => ?_)
    · refine Y_sub [1, 2, 0] rfl ?_
      exact hJ46 _ _ _
    · refine x_iload_n C 21 0 dX9_wrong_21 rfl ?_
      refine x_aload_n C 22 1 dX9_wrong_22 rfl ?_
      refine fg_worstPlace C 23 dX9_wrong_23 ?_
      refine x_icmp_gt C 26 45 dX9_wrong_26 (by decide) (fun _ => ?_) (fun _ => ?_)
      · exact x_vret C R 45 dX9_wrong_45
      · refine x_iload_n C 29 0 dX9_wrong_29 rfl ?_
        refine x_aload_n C 30 1 dX9_wrong_30 rfl ?_
        refine fg_worstPlace C 31 dX9_wrong_31 ?_
        refine x_icmp_ne C 34 46 dX9_wrong_34 (by decide) (fun _ => ?_) (fun _ => ?_)
        · refine Y_sub [1, 2, 0] rfl ?_
          exact hJ46 _ _ _
        · refine x_iload_n C 37 2 dX9_wrong_37 rfl ?_
          refine x_aload_n C 38 1 dX9_wrong_38 rfl ?_
          refine fg_worst C 39 dX9_wrong_39 ?_
          refine x_icmp_lt C 42 46 dX9_wrong_42 (by decide) (fun _ => ?_) (fun _ => ?_)
          · refine Y_sub [1, 2, 0] rfl ?_
            exact hJ46 _ _ _
          · exact x_vret C R 45 dX9_wrong_45
def M_X9_goesOn (σ : Wd) : Option Wd :=
  if (gI σ 0 11) ≠ (400 : Int32) then (lt (uI σ 0 11 ((gI σ 0 11) + (1 : Int32))) fun s_25 => some s_25) else (bnd1 (M_X9_fail σ (2 : Int32)) fun s_12 => some s_12)
set_option maxRecDepth 100000 in
set_option maxHeartbeats 4000000 in
theorem c_X9_goesOn (V : Vt) (l : Launch) (σ : Wd) {σ2 : Wd} (h : M_X9_goesOn σ = some σ2) : Ct l (Zm V) yX9_goesOn cX9_goesOn 1 none 1 21 [.ref (zA (Zm V) 0)] σ none σ2 := by
  refine Ct_intro (own := RX9) zm_ok (by decide +kernel) rfl (Nat.le_of_ble_eq_true rfl) [(0, .ref (zA (Zm V) 0))] rfl (fun K C R hKl hnL => ?_)
  have hN := nl_of hnL
  subst hKl
  refine Y_end h ?_
  unfold M_X9_goesOn
  refine x_aload_n C 0 0 dX9_goesOn_0 rfl ?_
  refine fg_t C 1 dX9_goesOn_1 ?_
  refine x_sipush C 4 dX9_goesOn_4 ks_400 ?_
  refine x_icmp_ne C 7 18 dX9_goesOn_7 (by decide) (fun _ => ?_) (fun _ => ?_)
  · refine x_aload_n C 18 0 dX9_goesOn_18 rfl ?_
    refine x_dup C 19 dX9_goesOn_19 rfl ?_
    refine fg_t C 20 dX9_goesOn_20 ?_
    refine x_iconst C 23 dX9_goesOn_23 ki_1 ?_
    refine x_iadd C 24 dX9_goesOn_24 ?_
    refine fp_t C 25 dX9_goesOn_25 (fun s_25 => ?_)
    exact x_vret C R 28 dX9_goesOn_28
  · refine x_aload_n C 10 0 dX9_goesOn_10 rfl ?_
    refine x_iconst C 11 dX9_goesOn_11 ki_2 ?_
    refine Y_bnd1 (fun s_12 h12 => ?_)
    refine x_callVv C 12 [.int (2 : Int32)] [] rfl tw_1501 mv_X9_fail (Nat.le_of_ble_eq_true rfl) (Nat.le_of_ble_eq_true rfl) (Nat.le_of_ble_eq_true rfl) (Nat.le_of_ble_eq_true rfl) (km_0 V _) rfl dX9_goesOn_12 (c_X9_fail V _ _ _ h12) ?_
    refine x_goto C 15 28 dX9_goesOn_15 (by decide) ?_
    exact x_vret C R 28 dX9_goesOn_28
def M_X9_must (σ : Wd) (v1 : Int32) : Option Wd :=
  bnd1 (M_X9_is σ v1) fun r2 => if r2 = 0 then (bnd1 (M_X9_fail σ (1 : Int32)) fun s_17 => some s_17) else (bnd1 (M_X9_goesOn σ) fun s_9 => some s_9)
set_option maxRecDepth 100000 in
set_option maxHeartbeats 4000000 in
theorem c_X9_must (V : Vt) (l : Launch) (σ : Wd) (v1 : Int32) {σ2 : Wd} (h : M_X9_must σ v1 = some σ2) : Ct l (Zm V) yX9_must cX9_must 2 none 2 41 [.ref (zA (Zm V) 0), .int v1] σ none σ2 := by
  refine Ct_intro (own := RX9) zm_ok (by decide +kernel) rfl (Nat.le_of_ble_eq_true rfl) [(0, .ref (zA (Zm V) 0)), (1, .int v1)] rfl (fun K C R hKl hnL => ?_)
  have hN := nl_of hnL
  subst hKl
  refine Y_end h ?_
  unfold M_X9_must
  refine x_aload_n C 0 0 dX9_must_0 rfl ?_
  refine x_iload_n C 1 1 dX9_must_1 rfl ?_
  refine Y_bnd1 (fun r2 h2 => ?_)
  refine x_callVi C 2 [.int v1] [] rfl tw_1485 mv_X9_is (Nat.le_of_ble_eq_true rfl) (Nat.le_of_ble_eq_true rfl) (Nat.le_of_ble_eq_true rfl) (Nat.le_of_ble_eq_true rfl) (km_0 V _) rfl dX9_must_2 (c_X9_is V _ _ _ h2) ?_
  refine x_if_eq C 5 15 dX9_must_5 (by decide) (fun _ => ?_) (fun _ => ?_)
  · refine x_aload_n C 15 0 dX9_must_15 rfl ?_
    refine x_iconst C 16 dX9_must_16 ki_1 ?_
    refine Y_bnd1 (fun s_17 h17 => ?_)
    refine x_callVv C 17 [.int (1 : Int32)] [] rfl tw_1501 mv_X9_fail (Nat.le_of_ble_eq_true rfl) (Nat.le_of_ble_eq_true rfl) (Nat.le_of_ble_eq_true rfl) (Nat.le_of_ble_eq_true rfl) (km_0 V _) rfl dX9_must_17 (c_X9_fail V _ _ _ h17) ?_
    exact x_vret C R 20 dX9_must_20
  · refine x_aload_n C 8 0 dX9_must_8 rfl ?_
    refine Y_bnd1 (fun s_9 h9 => ?_)
    refine x_callVv C 9 [] [] rfl tw_1497 mv_X9_goesOn (Nat.le_of_ble_eq_true rfl) (Nat.le_of_ble_eq_true rfl) (Nat.le_of_ble_eq_true rfl) (Nat.le_of_ble_eq_true rfl) (km_0 V _) rfl dX9_must_9 (c_X9_goesOn V _ _  h9) ?_
    refine x_goto C 12 20 dX9_must_12 (by decide) ?_
    exact x_vret C R 20 dX9_must_20
def M_X9_plain (σ : Wd) (v1 : Int32) : Option Wd :=
  chk (ib v1 2) (lt (uI σ 10 (ix v1) (3 : Int32)) fun s_6 => chk (ib v1 2) (lt (uI s_6 11 (ix v1) (0 : Int32)) fun s_13 => chk (ib v1 2) (lt (uI s_13 12 (ix v1) (0 : Int32)) fun s_20 => chk (ib v1 2) (lt (uI s_20 14 (ix v1) (0 : Int32)) fun s_27 => chk (ib v1 2) (lt (uI s_27 19 (ix v1) (0 : Int32)) fun s_34 => some s_34)))))
set_option maxRecDepth 100000 in
set_option maxHeartbeats 4000000 in
theorem c_X9_plain (V : Vt) (l : Launch) (σ : Wd) (v1 : Int32) {σ2 : Wd} (h : M_X9_plain σ v1 = some σ2) : Ct l (Zm V) yX9_plain cX9_plain 2 none 0 0 [.ref (zA (Zm V) 0), .int v1] σ none σ2 := by
  refine Ct_intro (own := RX9) zm_ok (by decide +kernel) rfl (Nat.le_of_ble_eq_true rfl) [(0, .ref (zA (Zm V) 0)), (1, .int v1)] rfl (fun K C R hKl hnL => ?_)
  have hN := nl_of hnL
  subst hKl
  refine Y_end h ?_
  unfold M_X9_plain
  refine x_aload_n C 0 0 dX9_plain_0 rfl ?_
  refine fg_copies C 1 dX9_plain_1 ?_
  refine x_iload_n C 4 1 dX9_plain_4 rfl ?_
  refine x_iconst C 5 dX9_plain_5 ki_3 ?_
  refine x_iast C 6 (Nat.le_of_ble_eq_true rfl) (km_10 V) dX9_plain_6 (fun _ s_6 => ?_)
  refine x_aload_n C 7 0 dX9_plain_7 rfl ?_
  refine fg_firstLeader C 8 dX9_plain_8 ?_
  refine x_iload_n C 11 1 dX9_plain_11 rfl ?_
  refine x_iconst C 12 dX9_plain_12 ki_0 ?_
  refine x_iast C 13 (Nat.le_of_ble_eq_true rfl) (km_11 V) dX9_plain_13 (fun _ s_13 => ?_)
  refine x_aload_n C 14 0 dX9_plain_14 rfl ?_
  refine fg_cells C 15 dX9_plain_15 ?_
  refine x_iload_n C 18 1 dX9_plain_18 rfl ?_
  refine x_iconst C 19 dX9_plain_19 ki_0 ?_
  refine x_iast C 20 (Nat.le_of_ble_eq_true rfl) (km_12 V) dX9_plain_20 (fun _ s_20 => ?_)
  refine x_aload_n C 21 0 dX9_plain_21 rfl ?_
  refine fg_forms C 22 dX9_plain_22 ?_
  refine x_iload_n C 25 1 dX9_plain_25 rfl ?_
  refine x_iconst C 26 dX9_plain_26 ki_0 ?_
  refine x_iast C 27 (Nat.le_of_ble_eq_true rfl) (km_14 V) dX9_plain_27 (fun _ s_27 => ?_)
  refine x_aload_n C 28 0 dX9_plain_28 rfl ?_
  refine fg_seed C 29 dX9_plain_29 ?_
  refine x_iload_n C 32 1 dX9_plain_32 rfl ?_
  refine x_iconst C 33 dX9_plain_33 ki_0 ?_
  refine x_iast C 34 (Nat.le_of_ble_eq_true rfl) (km_19 V) dX9_plain_34 (fun _ s_34 => ?_)
  exact x_vret C R 35 dX9_plain_35
def M_X9_bounded_J15 (σ : Wd) (v1 : Int32) : Option (Int32 × Wd) :=
  bnd1 (M_X9_fail σ (1 : Int32)) fun s_17 => some (v1, s_17)
def M_X9_bounded_J51 (σ : Wd) (v3 : Int32) : Option (Int32 × Wd) :=
  bnd1 (M_X9_goesOn σ) fun s_52 => some (v3, s_52)
def M_X9_bounded_J42 (σ : Wd) (v3 : Int32) : Option (Int32 × Wd) :=
  bnd1 (M_X9_wrong σ (5 : Int32) (gI σ 0 11)) fun s_48 => M_X9_bounded_J51 s_48 v3
def M_X9_bounded (σ : Wd) (v1 : Int32) (v2 : Int32) : Option (Int32 × Wd) :=
  if 0 < (gI σ 0 13) then (M_X9_bounded_J15 σ v1) else (bnd1 (M_X9_is σ (2 : Int32)) fun r9 => if r9 ≠ 0 then (chk (ib (gI σ 0 11) 403) (lt (gI σ 5 (ix (gI σ 0 11))) fun v3_31 => if v3_31 < v1 then (M_X9_bounded_J42 σ v3_31) else (if v3_31 ≤ v2 then (M_X9_bounded_J51 σ v3_31) else (M_X9_bounded_J42 σ v3_31)))) else (M_X9_bounded_J15 σ v1))
set_option maxRecDepth 100000 in
set_option maxHeartbeats 4000000 in
theorem c_X9_bounded (V : Vt) (l : Launch) (σ : Wd) (v1 : Int32) (v2 : Int32) {r : Int32} {σ2 : Wd} (h : M_X9_bounded σ v1 v2 = some (r, σ2)) : Ct l (Zm V) yX9_bounded cX9_bounded 4 (some .int) 2 41 [.ref (zA (Zm V) 0), .int v1, .int v2] σ (some (.int r)) σ2 := by
  refine Ct_intro (own := RX9) zm_ok (by decide +kernel) rfl (Nat.le_of_ble_eq_true rfl) [(0, .ref (zA (Zm V) 0)), (1, .int v1), (2, .int v2)] rfl (fun K C R hKl hnL => ?_)
  have hN := nl_of hnL
  subst hKl
  refine Y_end h ?_
  unfold M_X9_bounded
  refine x_aload_n C 0 0 dX9_bounded_0 rfl ?_
  refine fg_fault C 1 dX9_bounded_1 ?_
  have hJ15 : ∀ (σ_15 : Wd) (v1_15 : Int32), Y K (Zm V) (M_X9_bounded_J15 σ_15 v1_15) (fun q => q = (r, σ2)) σ_15 15 [(0, .ref (zA (Zm V) 0)), (1, .int v1_15)] [] := by
    intro σ_15 v1_15
    unfold M_X9_bounded_J15
    refine x_aload_n C 15 0 dX9_bounded_15 rfl ?_
    refine x_iconst C 16 dX9_bounded_16 ki_1 ?_
    refine Y_bnd1 (fun s_17 h17 => ?_)
    refine x_callVv C 17 [.int (1 : Int32)] [] rfl tw_1501 mv_X9_fail (Nat.le_of_ble_eq_true rfl) (Nat.le_of_ble_eq_true rfl) (Nat.le_of_ble_eq_true rfl) (Nat.le_of_ble_eq_true rfl) (km_0 V _) rfl dX9_bounded_17 (c_X9_fail V _ _ _ h17) ?_
    refine x_iload_n C 20 1 dX9_bounded_20 rfl ?_
    exact x_iret2 C R 21 dX9_bounded_21
  refine x_if_gt C 4 15 dX9_bounded_4 (by decide) (fun _ => ?_) (fun _ => ?_)
  · refine Y_sub [0, 1] rfl ?_
    exact hJ15 _ _
  · refine x_aload_n C 7 0 dX9_bounded_7 rfl ?_
    refine x_iconst C 8 dX9_bounded_8 ki_2 ?_
    refine Y_bnd1 (fun r9 h9 => ?_)
    refine x_callVi C 9 [.int (2 : Int32)] [] rfl tw_1485 mv_X9_is (Nat.le_of_ble_eq_true rfl) (Nat.le_of_ble_eq_true rfl) (Nat.le_of_ble_eq_true rfl) (Nat.le_of_ble_eq_true rfl) (km_0 V _) rfl dX9_bounded_9 (c_X9_is V _ _ _ h9) ?_
    refine x_if_ne C 12 22 dX9_bounded_12 (by decide) (fun _ => ?_) (fun _ => ?_)
    · refine x_aload_n C 22 0 dX9_bounded_22 rfl ?_
      refine fg_tValue C 23 dX9_bounded_23 ?_
      refine x_aload_n C 26 0 dX9_bounded_26 rfl ?_
      refine fg_t C 27 dX9_bounded_27 ?_
      refine x_iald C 30 (Nat.le_of_ble_eq_true rfl) (km_5 V _) dX9_bounded_30 (fun _ => ?_)
      refine x_istore_nt C 31 (fun v3_31 => [(3, .int v3_31), (0, .ref (zA (Zm V) 0)), (1, .int v1), (2, .int v2)]) dX9_bounded_31 rfl (hN _ (Nat.le_of_ble_eq_true rfl)) (fun _ => rfl) (fun v3_31 => ?_)
      refine x_iload_n C 32 0 dX9_bounded_32 rfl ?_
      refine x_iload_n C 33 2 dX9_bounded_33 rfl ?_
      have hJ51 : ∀ (σ_51 : Wd) (v3_51 : Int32), Y K (Zm V) (M_X9_bounded_J51 σ_51 v3_51) (fun q => q = (r, σ2)) σ_51 51 [(0, .ref (zA (Zm V) 0)), (3, .int v3_51)] [] := by
        intro σ_51 v3_51
        unfold M_X9_bounded_J51
        refine x_aload_n C 51 0 dX9_bounded_51 rfl ?_
        refine Y_bnd1 (fun s_52 h52 => ?_)
        refine x_callVv C 52 [] [] rfl tw_1497 mv_X9_goesOn (Nat.le_of_ble_eq_true rfl) (Nat.le_of_ble_eq_true rfl) (Nat.le_of_ble_eq_true rfl) (Nat.le_of_ble_eq_true rfl) (km_0 V _) rfl dX9_bounded_52 (c_X9_goesOn V _ _  h52) ?_
        refine x_iload_n C 55 1 dX9_bounded_55 rfl ?_
        exact x_iret2 C R 56 dX9_bounded_56
      have hJ42 : ∀ (σ_42 : Wd) (v3_42 : Int32), Y K (Zm V) (M_X9_bounded_J42 σ_42 v3_42) (fun q => q = (r, σ2)) σ_42 42 [(0, .ref (zA (Zm V) 0)), (3, .int v3_42)] [] := by
        intro σ_42 v3_42
        unfold M_X9_bounded_J42
        refine x_aload_n C 42 0 dX9_bounded_42 rfl ?_
        refine x_iconst C 43 dX9_bounded_43 ki_5 ?_
        refine x_aload_n C 44 0 dX9_bounded_44 rfl ?_
        refine fg_t C 45 dX9_bounded_45 ?_
        refine Y_bnd1 (fun s_48 h48 => ?_)
        refine x_callVv C 48 [.int (5 : Int32), .int (gI σ_42 0 11)] [] rfl tw_1509 mv_X9_wrong (Nat.le_of_ble_eq_true rfl) (Nat.le_of_ble_eq_true rfl) (Nat.le_of_ble_eq_true rfl) (Nat.le_of_ble_eq_true rfl) (km_0 V _) rfl dX9_bounded_48 (c_X9_wrong V _ _ _ _ h48) ?_
        exact hJ51 _ _
      refine x_icmp_lt C 34 42 dX9_bounded_34 (by decide) (fun _ => ?_) (fun _ => ?_)
      · refine Y_sub [1, 0] rfl ?_
        exact hJ42 _ _
      · refine x_iload_n C 37 0 dX9_bounded_37 rfl ?_
        refine x_iload_n C 38 3 dX9_bounded_38 rfl ?_
        refine x_icmp_le C 39 51 dX9_bounded_39 (by decide) (fun _ => ?_) (fun _ => ?_)
        · refine Y_sub [1, 0] rfl ?_
          exact hJ51 _ _
        · refine Y_sub [1, 0] rfl ?_
          exact hJ42 _ _
    · refine Y_sub [0, 1] rfl ?_
      exact hJ15 _ _
def M_X9_toldInt (σ : Wd) (v1 : Int32) (v2 : Int32) : Option (Int32 × Wd) :=
  bnd1 (M_X9_goesOn σ) fun s_1 => bnd2 (M_X9_bounded s_1 v1 v2) fun r7 s_7 => bnd1 (M_X9_must s_7 (4 : Int32)) fun s_13 => some (r7, s_13)
set_option maxRecDepth 100000 in
set_option maxHeartbeats 4000000 in
theorem c_X9_toldInt (V : Vt) (l : Launch) (σ : Wd) (v1 : Int32) (v2 : Int32) {r : Int32} {σ2 : Wd} (h : M_X9_toldInt σ v1 v2 = some (r, σ2)) : Ct l (Zm V) yX9_toldInt cX9_toldInt 4 (some .int) 3 64 [.ref (zA (Zm V) 0), .int v1, .int v2] σ (some (.int r)) σ2 := by
  refine Ct_intro (own := RX9) zm_ok (by decide +kernel) rfl (Nat.le_of_ble_eq_true rfl) [(0, .ref (zA (Zm V) 0)), (1, .int v1), (2, .int v2)] rfl (fun K C R hKl hnL => ?_)
  have hN := nl_of hnL
  subst hKl
  refine Y_end h ?_
  unfold M_X9_toldInt
  refine x_aload_n C 0 0 dX9_toldInt_0 rfl ?_
  refine Y_bnd1 (fun s_1 h1 => ?_)
  refine x_callVv C 1 [] [] rfl tw_1497 mv_X9_goesOn (Nat.le_of_ble_eq_true rfl) (Nat.le_of_ble_eq_true rfl) (Nat.le_of_ble_eq_true rfl) (Nat.le_of_ble_eq_true rfl) (km_0 V _) rfl dX9_toldInt_1 (c_X9_goesOn V _ _  h1) ?_
  refine x_aload_n C 4 0 dX9_toldInt_4 rfl ?_
  refine x_iload_n C 5 1 dX9_toldInt_5 rfl ?_
  refine x_iload_n C 6 2 dX9_toldInt_6 rfl ?_
  refine Y_bnd2 (fun r7 s_7 h7 => ?_)
  refine x_callVi C 7 [.int v1, .int v2] [] rfl tw_1505 mv_X9_bounded (Nat.le_of_ble_eq_true rfl) (Nat.le_of_ble_eq_true rfl) (Nat.le_of_ble_eq_true rfl) (Nat.le_of_ble_eq_true rfl) (km_0 V _) rfl dX9_toldInt_7 (c_X9_bounded V _ _ _ _ h7) ?_
  refine x_istore_n C 10 (L' := [(3, .int r7), (0, .ref (zA (Zm V) 0)), (1, .int v1), (2, .int v2)]) dX9_toldInt_10 rfl (hN _ (Nat.le_of_ble_eq_true rfl)) rfl ?_
  refine x_aload_n C 11 1 dX9_toldInt_11 rfl ?_
  refine x_iconst C 12 dX9_toldInt_12 ki_4 ?_
  refine Y_bnd1 (fun s_13 h13 => ?_)
  refine x_callVv C 13 [.int (4 : Int32)] [] rfl tw_1513 mv_X9_must (Nat.le_of_ble_eq_true rfl) (Nat.le_of_ble_eq_true rfl) (Nat.le_of_ble_eq_true rfl) (Nat.le_of_ble_eq_true rfl) (km_0 V _) rfl dX9_toldInt_13 (c_X9_must V _ _ _ h13) ?_
  refine x_iload_n C 16 0 dX9_toldInt_16 rfl ?_
  exact x_iret2 C R 17 dX9_toldInt_17
def M_X9_roomFor_J10 (σ : Wd) : Option Wd :=
  if (gI σ 0 13) ≠ 0 then (some σ) else (bnd1 (M_X9_goesOn σ) fun s_18 => some s_18)
def M_X9_roomFor (σ : Wd) (v1 : Int32) (v2 : Int32) : Option Wd :=
  if v1 ≠ v2 then (M_X9_roomFor_J10 σ) else (bnd1 (M_X9_fail σ (2 : Int32)) fun s_7 => M_X9_roomFor_J10 s_7)
set_option maxRecDepth 100000 in
set_option maxHeartbeats 4000000 in
theorem c_X9_roomFor (V : Vt) (l : Launch) (σ : Wd) (v1 : Int32) (v2 : Int32) {σ2 : Wd} (h : M_X9_roomFor σ v1 v2 = some σ2) : Ct l (Zm V) yX9_roomFor cX9_roomFor 3 none 2 41 [.ref (zA (Zm V) 0), .int v1, .int v2] σ none σ2 := by
  refine Ct_intro (own := RX9) zm_ok (by decide +kernel) rfl (Nat.le_of_ble_eq_true rfl) [(0, .ref (zA (Zm V) 0)), (1, .int v1), (2, .int v2)] rfl (fun K C R hKl hnL => ?_)
  have hN := nl_of hnL
  subst hKl
  refine Y_end h ?_
  unfold M_X9_roomFor
  refine x_iload_n C 0 1 dX9_roomFor_0 rfl ?_
  refine x_iload_n C 1 2 dX9_roomFor_1 rfl ?_
  have hJ10 : ∀ (σ_10 : Wd), Y K (Zm V) (M_X9_roomFor_J10 σ_10) (fun q => q = σ2) σ_10 10 [(0, .ref (zA (Zm V) 0))] [] := by
    intro σ_10
    unfold M_X9_roomFor_J10
    refine x_aload_n C 10 0 dX9_roomFor_10 rfl ?_
    refine fg_fault C 11 dX9_roomFor_11 ?_
    refine x_if_ne C 14 21 dX9_roomFor_14 (by decide) (fun _ => ?_) (fun _ => ?_)
    · exact x_vret C R 21 dX9_roomFor_21
    · refine x_aload_n C 17 0 dX9_roomFor_17 rfl ?_
      refine Y_bnd1 (fun s_18 h18 => ?_)
      refine x_callVv C 18 [] [] rfl tw_1497 mv_X9_goesOn (Nat.le_of_ble_eq_true rfl) (Nat.le_of_ble_eq_true rfl) (Nat.le_of_ble_eq_true rfl) (Nat.le_of_ble_eq_true rfl) (km_0 V _) rfl dX9_roomFor_18 (c_X9_goesOn V _ _  h18) ?_
      exact x_vret C R 21 dX9_roomFor_21
  refine x_icmp_ne C 2 10 dX9_roomFor_2 (by decide) (fun _ => ?_) (fun _ => ?_)
  · refine Y_sub [0] rfl ?_
    exact hJ10 _
  · refine x_aload_n C 5 0 dX9_roomFor_5 rfl ?_
    refine x_iconst C 6 dX9_roomFor_6 ki_2 ?_
    refine Y_bnd1 (fun s_7 h7 => ?_)
    refine x_callVv C 7 [.int (2 : Int32)] [] rfl tw_1501 mv_X9_fail (Nat.le_of_ble_eq_true rfl) (Nat.le_of_ble_eq_true rfl) (Nat.le_of_ble_eq_true rfl) (Nat.le_of_ble_eq_true rfl) (km_0 V _) rfl dX9_roomFor_7 (c_X9_fail V _ _ _ h7) ?_
    refine Y_sub [0] rfl ?_
    exact hJ10 _
def M_X9_named_L12 (v1 : Int32) (v2 : Int32) (σ : Wd) : Option ((Int32 × Wd) ⊕ (Wd)) :=
  if (gI σ 0 20) ≤ v2 then (some (.inr σ)) else (if (gI σ 0 13) ≠ 0 then (some (.inr σ)) else (chk (ib v2 12) (chk (ib v1 403) (if (lg_cmp (gL σ 8 (ix v2)) (gL σ 6 (ix v1))) ≠ 0 then (lt (v2 + (1 : Int32)) fun v2_49 => some (.inl (v2_49, σ))) else (bnd1 (M_X9_wrong σ (3 : Int32) v1) fun s_46 => lt (v2 + (1 : Int32)) fun v2_49 => some (.inl (v2_49, s_46)))))))
def M_X9_named (σ : Wd) : Option (Int32 × Wd) :=
  lt (gI σ 0 11) fun v1_4 => bnd1 (M_X9_must σ (1 : Int32)) fun s_7 => bnd1 (iter (fun s : Int32 × Wd => M_X9_named_L12 v1_4 s.1 s.2) FU ((0 : Int32), s_7)) (un1 fun sx_12 => (some (v1_4, sx_12)))
set_option maxRecDepth 100000 in
set_option maxHeartbeats 4000000 in
theorem c_X9_named (V : Vt) (l : Launch) (σ : Wd) {r : Int32} {σ2 : Wd} (h : M_X9_named σ = some (r, σ2)) : Ct l (Zm V) yX9_named cX9_named 3 (some .int) 3 62 [.ref (zA (Zm V) 0)] σ (some (.int r)) σ2 := by
  refine Ct_intro (own := RX9) zm_ok (by decide +kernel) rfl (Nat.le_of_ble_eq_true rfl) [(0, .ref (zA (Zm V) 0))] rfl (fun K C R hKl hnL => ?_)
  have hN := nl_of hnL
  subst hKl
  refine Y_end h ?_
  unfold M_X9_named
  refine x_aload_n C 0 0 dX9_named_0 rfl ?_
  refine fg_t C 1 dX9_named_1 ?_
  refine x_istore_nt C 4 (fun v1_4 => [(1, .int v1_4), (0, .ref (zA (Zm V) 0))]) dX9_named_4 rfl (hN _ (Nat.le_of_ble_eq_true rfl)) (fun _ => rfl) (fun v1_4 => ?_)
  refine x_aload_n C 5 1 dX9_named_5 rfl ?_
  refine x_iconst C 6 dX9_named_6 ki_1 ?_
  refine Y_bnd1 (fun s_7 h7 => ?_)
  refine x_callVv C 7 [.int (1 : Int32)] [] rfl tw_1513 mv_X9_must (Nat.le_of_ble_eq_true rfl) (Nat.le_of_ble_eq_true rfl) (Nat.le_of_ble_eq_true rfl) (Nat.le_of_ble_eq_true rfl) (km_0 V _) rfl dX9_named_7 (c_X9_must V _ _ _ h7) ?_
  refine x_iconst C 10 dX9_named_10 ki_0 ?_
  refine x_istore_n C 11 (L' := [(2, .int (0 : Int32)), (1, .int v1_4), (0, .ref (zA (Zm V) 0))]) dX9_named_11 rfl (hN _ (Nat.le_of_ble_eq_true rfl)) rfl ?_
  refine Y_sub [2, 1, 0] rfl ?_
  refine x_loop 12 (fun s : Int32 × Wd => s.2) (fun s : Int32 × Wd => [(0, .ref (zA (Zm V) 0)), (1, .int v1_4), (2, .int s.1)]) (fun E12 hb12 hx12 s => ?_) FU ((0 : Int32), s_7)
  obtain ⟨v2_12, s_12⟩ := s
  show Y K (Zm V) (M_X9_named_L12 v1_4 v2_12 s_12) E12 s_12 12 [(0, .ref (zA (Zm V) 0)), (1, .int v1_4), (2, .int v2_12)] []
  unfold M_X9_named_L12
  refine x_iload_n C 12 2 dX9_named_12 rfl ?_
  refine x_aload_n C 13 0 dX9_named_13 rfl ?_
  refine fg_names C 14 dX9_named_14 ?_
  refine x_icmp_ge C 17 55 dX9_named_17 (by decide) (fun _ => ?_) (fun _ => ?_)
  · refine x_ex1 hx12 s_12 ?_
    refine x_iload_n C 55 1 dX9_named_55 rfl ?_
    exact x_iret2 C R 56 dX9_named_56
  · refine x_aload_n C 20 0 dX9_named_20 rfl ?_
    refine fg_fault C 21 dX9_named_21 ?_
    refine x_if_ne C 24 55 dX9_named_24 (by decide) (fun _ => ?_) (fun _ => ?_)
    · refine x_ex1 hx12 s_12 ?_
      refine x_iload_n C 55 1 dX9_named_55 rfl ?_
      exact x_iret2 C R 56 dX9_named_56
    · refine x_aload_n C 27 0 dX9_named_27 rfl ?_
      refine fg_nameOf C 28 dX9_named_28 ?_
      refine x_iload_n C 31 2 dX9_named_31 rfl ?_
      refine x_lald C 32 (Nat.le_of_ble_eq_true rfl) (km_8 V _) dX9_named_32 (fun _ => ?_)
      refine x_aload_n C 33 0 dX9_named_33 rfl ?_
      refine fg_tName C 34 dX9_named_34 ?_
      refine x_iload_n C 37 1 dX9_named_37 rfl ?_
      refine x_lald C 38 (Nat.le_of_ble_eq_true rfl) (km_6 V _) dX9_named_38 (fun _ => ?_)
      refine x_lcmp C 39 dX9_named_39 ?_
      refine x_if_ne C 40 49 dX9_named_40 (by decide) (fun _ => ?_) (fun _ => ?_)
      · refine x_iinct C 49 2 (1 : Int32) (fun v2_49 => [(2, .int v2_49), (0, .ref (zA (Zm V) 0)), (1, .int v1_4)]) dX9_named_49 rfl ki_1 (hN _ (Nat.le_of_ble_eq_true rfl)) (fun _ => rfl) (fun v2_49 => ?_)
        refine x_goto C 52 12 dX9_named_52 (by decide) ?_
        refine Y_sub [1, 2, 0] rfl ?_
        exact x_back (v2_49, s_12) (hb12 (v2_49, s_12))
      · refine x_aload_n C 43 0 dX9_named_43 rfl ?_
        refine x_iconst C 44 dX9_named_44 ki_3 ?_
        refine x_iload_n C 45 1 dX9_named_45 rfl ?_
        refine Y_bnd1 (fun s_46 h46 => ?_)
        refine x_callVv C 46 [.int (3 : Int32), .int v1_4] [] rfl tw_1509 mv_X9_wrong (Nat.le_of_ble_eq_true rfl) (Nat.le_of_ble_eq_true rfl) (Nat.le_of_ble_eq_true rfl) (Nat.le_of_ble_eq_true rfl) (km_0 V _) rfl dX9_named_46 (c_X9_wrong V _ _ _ _ h46) ?_
        refine x_iinct C 49 2 (1 : Int32) (fun v2_49 => [(2, .int v2_49), (0, .ref (zA (Zm V) 0)), (1, .int v1_4)]) dX9_named_49 rfl ki_1 (hN _ (Nat.le_of_ble_eq_true rfl)) (fun _ => rfl) (fun v2_49 => ?_)
        refine x_goto C 52 12 dX9_named_52 (by decide) ?_
        refine Y_sub [1, 2, 0] rfl ?_
        exact x_back (v2_49, s_46) (hb12 (v2_49, s_46))
def M_X9_keepsName (σ : Wd) (v1 : Int32) (v2 : Int32) : Option Wd :=
  chk (ib v1 403) (chk (ib (gI σ 0 20) 12) (lt (uL σ 8 (ix (gI σ 0 20)) (gL σ 6 (ix v1))) fun s_14 => chk (ib (gI s_14 0 20) 12) (lt (uI s_14 9 (ix (gI s_14 0 20)) v2) fun s_24 => lt (uI s_24 0 20 ((gI s_24 0 20) + (1 : Int32))) fun s_32 => some s_32)))
set_option maxRecDepth 100000 in
set_option maxHeartbeats 4000000 in
theorem c_X9_keepsName (V : Vt) (l : Launch) (σ : Wd) (v1 : Int32) (v2 : Int32) {σ2 : Wd} (h : M_X9_keepsName σ v1 v2 = some σ2) : Ct l (Zm V) yX9_keepsName cX9_keepsName 3 none 0 0 [.ref (zA (Zm V) 0), .int v1, .int v2] σ none σ2 := by
  refine Ct_intro (own := RX9) zm_ok (by decide +kernel) rfl (Nat.le_of_ble_eq_true rfl) [(0, .ref (zA (Zm V) 0)), (1, .int v1), (2, .int v2)] rfl (fun K C R hKl hnL => ?_)
  have hN := nl_of hnL
  subst hKl
  refine Y_end h ?_
  unfold M_X9_keepsName
  refine x_aload_n C 0 0 dX9_keepsName_0 rfl ?_
  refine fg_nameOf C 1 dX9_keepsName_1 ?_
  refine x_aload_n C 4 0 dX9_keepsName_4 rfl ?_
  refine fg_names C 5 dX9_keepsName_5 ?_
  refine x_aload_n C 8 0 dX9_keepsName_8 rfl ?_
  refine fg_tName C 9 dX9_keepsName_9 ?_
  refine x_iload_n C 12 1 dX9_keepsName_12 rfl ?_
  refine x_lald C 13 (Nat.le_of_ble_eq_true rfl) (km_6 V _) dX9_keepsName_13 (fun _ => ?_)
  refine x_last C 14 (Nat.le_of_ble_eq_true rfl) (km_8 V) dX9_keepsName_14 (fun _ s_14 => ?_)
  refine x_aload_n C 15 0 dX9_keepsName_15 rfl ?_
  refine fg_nameAt C 16 dX9_keepsName_16 ?_
  refine x_aload_n C 19 0 dX9_keepsName_19 rfl ?_
  refine fg_names C 20 dX9_keepsName_20 ?_
  refine x_iload_n C 23 2 dX9_keepsName_23 rfl ?_
  refine x_iast C 24 (Nat.le_of_ble_eq_true rfl) (km_9 V) dX9_keepsName_24 (fun _ s_24 => ?_)
  refine x_aload_n C 25 0 dX9_keepsName_25 rfl ?_
  refine x_dup C 26 dX9_keepsName_26 rfl ?_
  refine fg_names C 27 dX9_keepsName_27 ?_
  refine x_iconst C 30 dX9_keepsName_30 ki_1 ?_
  refine x_iadd C 31 dX9_keepsName_31 ?_
  refine fp_names C 32 dX9_keepsName_32 (fun s_32 => ?_)
  exact x_vret C R 35 dX9_keepsName_35
def M_X9_tellCell (σ : Wd) : Option Wd :=
  bnd2 (M_X9_named σ) fun r1 s_1 => chk (ib (gI s_1 0 19) 2) (bnd2 (M_X9_bounded s_1 (0 : Int32) (9999 : Int32)) fun r31 s_31 => chk (ib (((6 : Int32) * (gI s_1 0 19)) + (gI s_1 12 (ix (gI s_1 0 19)))) 12) (lt (uI s_31 13 (ix (((6 : Int32) * (gI s_1 0 19)) + (gI s_1 12 (ix (gI s_1 0 19))))) r31) fun s_34 => bnd1 (M_X9_must s_34 (4 : Int32)) fun s_37 => if (gI s_37 0 13) ≤ 0 then (chk (ib (gI s_37 0 19) 2) (bnd1 (M_X9_keepsName s_37 r1 (gI s_37 12 (ix (gI s_37 0 19)))) fun s_59 => chk (ib (gI s_59 0 19) 2) (chk (ib (gI s_59 0 19) 2) (lt (uI s_59 12 (ix (gI s_59 0 19)) ((gI s_59 12 (ix (gI s_59 0 19))) + (1 : Int32))) fun s_74 => some s_74)))) else (some s_37)))
set_option maxRecDepth 100000 in
set_option maxHeartbeats 4000000 in
theorem c_X9_tellCell (V : Vt) (l : Launch) (σ : Wd) {σ2 : Wd} (h : M_X9_tellCell σ = some σ2) : Ct l (Zm V) yX9_tellCell cX9_tellCell 2 none 4 84 [.ref (zA (Zm V) 0)] σ none σ2 := by
  refine Ct_intro (own := RX9) zm_ok (by decide +kernel) rfl (Nat.le_of_ble_eq_true rfl) [(0, .ref (zA (Zm V) 0))] rfl (fun K C R hKl hnL => ?_)
  have hN := nl_of hnL
  subst hKl
  refine Y_end h ?_
  unfold M_X9_tellCell
  refine x_aload_n C 0 0 dX9_tellCell_0 rfl ?_
  refine Y_bnd2 (fun r1 s_1 h1 => ?_)
  refine x_callVi C 1 [] [] rfl tw_1525 mv_X9_named (Nat.le_of_ble_eq_true rfl) (Nat.le_of_ble_eq_true rfl) (Nat.le_of_ble_eq_true rfl) (Nat.le_of_ble_eq_true rfl) (km_0 V _) rfl dX9_tellCell_1 (c_X9_named V _ _  h1) ?_
  refine x_istore_n C 4 (L' := [(1, .int r1), (0, .ref (zA (Zm V) 0))]) dX9_tellCell_4 rfl (hN _ (Nat.le_of_ble_eq_true rfl)) rfl ?_
  refine x_aload_n C 5 1 dX9_tellCell_5 rfl ?_
  refine fg_firstIn C 6 dX9_tellCell_6 ?_
  refine x_bipush C 9 dX9_tellCell_9 kb_6 ?_
  refine x_aload_n C 11 1 dX9_tellCell_11 rfl ?_
  refine fg_side C 12 dX9_tellCell_12 ?_
  refine x_imul C 15 dX9_tellCell_15 ?_
  refine x_aload_n C 16 1 dX9_tellCell_16 rfl ?_
  refine fg_cells C 17 dX9_tellCell_17 ?_
  refine x_aload_n C 20 1 dX9_tellCell_20 rfl ?_
  refine fg_side C 21 dX9_tellCell_21 ?_
  refine x_iald C 24 (Nat.le_of_ble_eq_true rfl) (km_12 V _) dX9_tellCell_24 (fun _ => ?_)
  refine x_iadd C 25 dX9_tellCell_25 ?_
  refine x_aload_n C 26 1 dX9_tellCell_26 rfl ?_
  refine x_iconst C 27 dX9_tellCell_27 ki_0 ?_
  refine x_sipush C 28 dX9_tellCell_28 ks_9999 ?_
  refine Y_bnd2 (fun r31 s_31 h31 => ?_)
  refine x_callVi C 31 [.int (0 : Int32), .int (9999 : Int32)] [.int (((6 : Int32) * (gI s_1 0 19)) + (gI s_1 12 (ix (gI s_1 0 19)))), .ref (zA (Zm V) 13)] rfl tw_1505 mv_X9_bounded (Nat.le_of_ble_eq_true rfl) (Nat.le_of_ble_eq_true rfl) (Nat.le_of_ble_eq_true rfl) (Nat.le_of_ble_eq_true rfl) (km_0 V _) rfl dX9_tellCell_31 (c_X9_bounded V _ _ _ _ h31) ?_
  refine x_iast C 34 (Nat.le_of_ble_eq_true rfl) (km_13 V) dX9_tellCell_34 (fun _ s_34 => ?_)
  refine x_aload_n C 35 1 dX9_tellCell_35 rfl ?_
  refine x_iconst C 36 dX9_tellCell_36 ki_4 ?_
  refine Y_bnd1 (fun s_37 h37 => ?_)
  refine x_callVv C 37 [.int (4 : Int32)] [] rfl tw_1513 mv_X9_must (Nat.le_of_ble_eq_true rfl) (Nat.le_of_ble_eq_true rfl) (Nat.le_of_ble_eq_true rfl) (Nat.le_of_ble_eq_true rfl) (km_0 V _) rfl dX9_tellCell_37 (c_X9_must V _ _ _ h37) ?_
  refine x_aload_n C 40 1 dX9_tellCell_40 rfl ?_
  refine fg_fault C 41 dX9_tellCell_41 ?_
  refine x_if_le C 44 48 dX9_tellCell_44 (by decide) (fun _ => ?_) (fun _ => ?_)
  · refine x_aload_n C 48 1 dX9_tellCell_48 rfl ?_
    refine x_iload_n C 49 0 dX9_tellCell_49 rfl ?_
    refine x_aload_n C 50 1 dX9_tellCell_50 rfl ?_
    refine fg_cells C 51 dX9_tellCell_51 ?_
    refine x_aload_n C 54 1 dX9_tellCell_54 rfl ?_
    refine fg_side C 55 dX9_tellCell_55 ?_
    refine x_iald C 58 (Nat.le_of_ble_eq_true rfl) (km_12 V _) dX9_tellCell_58 (fun _ => ?_)
    refine Y_bnd1 (fun s_59 h59 => ?_)
    refine x_callVv C 59 [.int r1, .int (gI s_37 12 (ix (gI s_37 0 19)))] [] rfl tw_1529 mv_X9_keepsName (Nat.le_of_ble_eq_true rfl) (Nat.le_of_ble_eq_true rfl) (Nat.le_of_ble_eq_true rfl) (Nat.le_of_ble_eq_true rfl) (km_0 V _) rfl dX9_tellCell_59 (c_X9_keepsName V _ _ _ _ h59) ?_
    refine x_aload_n C 62 1 dX9_tellCell_62 rfl ?_
    refine fg_cells C 63 dX9_tellCell_63 ?_
    refine x_aload_n C 66 1 dX9_tellCell_66 rfl ?_
    refine fg_side C 67 dX9_tellCell_67 ?_
    refine x_dup2 C 70 dX9_tellCell_70 rfl rfl ?_
    refine x_iald C 71 (Nat.le_of_ble_eq_true rfl) (km_12 V _) dX9_tellCell_71 (fun _ => ?_)
    refine x_iconst C 72 dX9_tellCell_72 ki_1 ?_
    refine x_iadd C 73 dX9_tellCell_73 ?_
    refine x_iast C 74 (Nat.le_of_ble_eq_true rfl) (km_12 V) dX9_tellCell_74 (fun _ s_74 => ?_)
    exact x_vret C R 75 dX9_tellCell_75
  · exact x_vret C R 47 dX9_tellCell_47
def M_X9_emit (σ : Wd) (v1 : Int32) (v2 : Int32) : Option Wd :=
  chk (ib (gI σ 0 33) 840) (lt (uI σ 20 (ix (gI σ 0 33)) v1) fun s_9 => chk (ib (gI s_9 0 33) 840) (lt (uI s_9 21 (ix (gI s_9 0 33)) v2) fun s_19 => lt (uI s_19 0 33 ((gI s_19 0 33) + (1 : Int32))) fun s_27 => some s_27))
set_option maxRecDepth 100000 in
set_option maxHeartbeats 4000000 in
theorem c_X9_emit (V : Vt) (l : Launch) (σ : Wd) (v1 : Int32) (v2 : Int32) {σ2 : Wd} (h : M_X9_emit σ v1 v2 = some σ2) : Ct l (Zm V) yX9_emit cX9_emit 3 none 0 0 [.ref (zA (Zm V) 0), .int v1, .int v2] σ none σ2 := by
  refine Ct_intro (own := RX9) zm_ok (by decide +kernel) rfl (Nat.le_of_ble_eq_true rfl) [(0, .ref (zA (Zm V) 0)), (1, .int v1), (2, .int v2)] rfl (fun K C R hKl hnL => ?_)
  have hN := nl_of hnL
  subst hKl
  refine Y_end h ?_
  unfold M_X9_emit
  refine x_aload_n C 0 0 dX9_emit_0 rfl ?_
  refine fg_code C 1 dX9_emit_1 ?_
  refine x_aload_n C 4 0 dX9_emit_4 rfl ?_
  refine fg_codes C 5 dX9_emit_5 ?_
  refine x_iload_n C 8 1 dX9_emit_8 rfl ?_
  refine x_iast C 9 (Nat.le_of_ble_eq_true rfl) (km_20 V) dX9_emit_9 (fun _ s_9 => ?_)
  refine x_aload_n C 10 0 dX9_emit_10 rfl ?_
  refine fg_codeInt C 11 dX9_emit_11 ?_
  refine x_aload_n C 14 0 dX9_emit_14 rfl ?_
  refine fg_codes C 15 dX9_emit_15 ?_
  refine x_iload_n C 18 2 dX9_emit_18 rfl ?_
  refine x_iast C 19 (Nat.le_of_ble_eq_true rfl) (km_21 V) dX9_emit_19 (fun _ s_19 => ?_)
  refine x_aload_n C 20 0 dX9_emit_20 rfl ?_
  refine x_dup C 21 dX9_emit_21 rfl ?_
  refine fg_codes C 22 dX9_emit_22 ?_
  refine x_iconst C 25 dX9_emit_25 ki_1 ?_
  refine x_iadd C 26 dX9_emit_26 ?_
  refine fp_codes C 27 dX9_emit_27 (fun s_27 => ?_)
  exact x_vret C R 30 dX9_emit_30
def M_X9_known_L21 (σ : Wd) (v1 : Int32) (v2 : Int32) : Option ((Int32) ⊕ ((Unit) ⊕ (Int32 × Wd))) :=
  if (gI σ 0 20) ≤ v2 then (some (.inr (.inl ()))) else (chk (ib v2 12) (chk (ib v1 403) (if (lg_cmp (gL σ 8 (ix v2)) (gL σ 6 (ix v1))) ≠ 0 then (lt (v2 + (1 : Int32)) fun v2_63 => some (.inl v2_63)) else (chk (ib v2 12) (if (10 : Int32) ≤ (gI σ 9 (ix v2)) then (lt (v2 + (1 : Int32)) fun v2_63 => some (.inl v2_63)) else (chk (ib v2 12) (some (.inr (.inr ((gI σ 9 (ix v2)), σ))))))))))
def M_X9_known (σ : Wd) : Option (Int32 × Wd) :=
  lt (gI σ 0 11) fun v1_4 => bnd1 (M_X9_must σ (1 : Int32)) fun s_7 => if (gI s_7 0 13) ≤ 0 then (bnd1 (iter (fun s : Int32 => M_X9_known_L21 s_7 v1_4 s) FU (0 : Int32)) (sx (un0 (bnd1 (M_X9_wrong s_7 (4 : Int32) v1_4) fun s_72 => some ((0 : Int32), s_72))) (fun q => some q))) else (some ((0 : Int32), s_7))
set_option maxRecDepth 100000 in
set_option maxHeartbeats 4000000 in
theorem c_X9_known (V : Vt) (l : Launch) (σ : Wd) {r : Int32} {σ2 : Wd} (h : M_X9_known σ = some (r, σ2)) : Ct l (Zm V) yX9_known cX9_known 3 (some .int) 3 62 [.ref (zA (Zm V) 0)] σ (some (.int r)) σ2 := by
  refine Ct_intro (own := RX9) zm_ok (by decide +kernel) rfl (Nat.le_of_ble_eq_true rfl) [(0, .ref (zA (Zm V) 0))] rfl (fun K C R hKl hnL => ?_)
  have hN := nl_of hnL
  subst hKl
  refine Y_end h ?_
  unfold M_X9_known
  refine x_aload_n C 0 0 dX9_known_0 rfl ?_
  refine fg_t C 1 dX9_known_1 ?_
  refine x_istore_nt C 4 (fun v1_4 => [(1, .int v1_4), (0, .ref (zA (Zm V) 0))]) dX9_known_4 rfl (hN _ (Nat.le_of_ble_eq_true rfl)) (fun _ => rfl) (fun v1_4 => ?_)
  refine x_aload_n C 5 1 dX9_known_5 rfl ?_
  refine x_iconst C 6 dX9_known_6 ki_1 ?_
  refine Y_bnd1 (fun s_7 h7 => ?_)
  refine x_callVv C 7 [.int (1 : Int32)] [] rfl tw_1513 mv_X9_must (Nat.le_of_ble_eq_true rfl) (Nat.le_of_ble_eq_true rfl) (Nat.le_of_ble_eq_true rfl) (Nat.le_of_ble_eq_true rfl) (km_0 V _) rfl dX9_known_7 (c_X9_must V _ _ _ h7) ?_
  refine x_aload_n C 10 1 dX9_known_10 rfl ?_
  refine fg_fault C 11 dX9_known_11 ?_
  refine x_if_le C 14 19 dX9_known_14 (by decide) (fun _ => ?_) (fun _ => ?_)
  · refine x_iconst C 19 dX9_known_19 ki_0 ?_
    refine x_istore_n C 20 (L' := [(2, .int (0 : Int32)), (1, .int v1_4), (0, .ref (zA (Zm V) 0))]) dX9_known_20 rfl (hN _ (Nat.le_of_ble_eq_true rfl)) rfl ?_
    refine Y_sub [2, 1, 0] rfl ?_
    refine x_loop 21 (fun s : Int32 => s_7) (fun s : Int32 => [(0, .ref (zA (Zm V) 0)), (1, .int v1_4), (2, .int s)]) (fun E21 hb21 hx21 s => ?_) FU (0 : Int32)
    obtain ⟨v2_21, rfl⟩ : ∃ z, z = s := ⟨s, rfl⟩
    show Y K (Zm V) (M_X9_known_L21 s_7 v1_4 v2_21) E21 s_7 21 [(0, .ref (zA (Zm V) 0)), (1, .int v1_4), (2, .int v2_21)] []
    unfold M_X9_known_L21
    refine x_iload_n C 21 2 dX9_known_21 rfl ?_
    refine x_aload_n C 22 0 dX9_known_22 rfl ?_
    refine fg_names C 23 dX9_known_23 ?_
    refine x_icmp_ge C 26 69 dX9_known_26 (by decide) (fun _ => ?_) (fun _ => ?_)
    · refine x_exl0 hx21 ?_
      refine x_aload_n C 69 0 dX9_known_69 rfl ?_
      refine x_iconst C 70 dX9_known_70 ki_4 ?_
      refine x_iload_n C 71 1 dX9_known_71 rfl ?_
      refine Y_bnd1 (fun s_72 h72 => ?_)
      refine x_callVv C 72 [.int (4 : Int32), .int v1_4] [] rfl tw_1509 mv_X9_wrong (Nat.le_of_ble_eq_true rfl) (Nat.le_of_ble_eq_true rfl) (Nat.le_of_ble_eq_true rfl) (Nat.le_of_ble_eq_true rfl) (km_0 V _) rfl dX9_known_72 (c_X9_wrong V _ _ _ _ h72) ?_
      refine x_iconst C 75 dX9_known_75 ki_0 ?_
      exact x_iret2 C R 76 dX9_known_76
    · refine x_aload_n C 29 0 dX9_known_29 rfl ?_
      refine fg_nameOf C 30 dX9_known_30 ?_
      refine x_iload_n C 33 2 dX9_known_33 rfl ?_
      refine x_lald C 34 (Nat.le_of_ble_eq_true rfl) (km_8 V _) dX9_known_34 (fun _ => ?_)
      refine x_aload_n C 35 0 dX9_known_35 rfl ?_
      refine fg_tName C 36 dX9_known_36 ?_
      refine x_iload_n C 39 1 dX9_known_39 rfl ?_
      refine x_lald C 40 (Nat.le_of_ble_eq_true rfl) (km_6 V _) dX9_known_40 (fun _ => ?_)
      refine x_lcmp C 41 dX9_known_41 ?_
      refine x_if_ne C 42 63 dX9_known_42 (by decide) (fun _ => ?_) (fun _ => ?_)
      · refine x_iinct C 63 2 (1 : Int32) (fun v2_63 => [(2, .int v2_63), (0, .ref (zA (Zm V) 0)), (1, .int v1_4)]) dX9_known_63 rfl ki_1 (hN _ (Nat.le_of_ble_eq_true rfl)) (fun _ => rfl) (fun v2_63 => ?_)
        refine x_goto C 66 21 dX9_known_66 (by decide) ?_
        refine Y_sub [1, 2, 0] rfl ?_
        exact x_back v2_63 (hb21 v2_63)
      · refine x_aload_n C 45 0 dX9_known_45 rfl ?_
        refine fg_nameAt C 46 dX9_known_46 ?_
        refine x_iload_n C 49 2 dX9_known_49 rfl ?_
        refine x_iald C 50 (Nat.le_of_ble_eq_true rfl) (km_9 V _) dX9_known_50 (fun _ => ?_)
        refine x_bipush C 51 dX9_known_51 kb_10 ?_
        refine x_icmp_ge C 53 63 dX9_known_53 (by decide) (fun _ => ?_) (fun _ => ?_)
        · refine x_iinct C 63 2 (1 : Int32) (fun v2_63 => [(2, .int v2_63), (0, .ref (zA (Zm V) 0)), (1, .int v1_4)]) dX9_known_63 rfl ki_1 (hN _ (Nat.le_of_ble_eq_true rfl)) (fun _ => rfl) (fun v2_63 => ?_)
          refine x_goto C 66 21 dX9_known_66 (by decide) ?_
          refine Y_sub [1, 2, 0] rfl ?_
          exact x_back v2_63 (hb21 v2_63)
        · refine x_aload_n C 56 0 dX9_known_56 rfl ?_
          refine fg_nameAt C 57 dX9_known_57 ?_
          refine x_iload_n C 60 2 dX9_known_60 rfl ?_
          refine x_iald C 61 (Nat.le_of_ble_eq_true rfl) (km_9 V _) dX9_known_61 (fun _ => ?_)
          refine x_exr hx21 _ ?_
          exact x_iret2 C R 62 dX9_known_62
  · refine x_iconst C 17 dX9_known_17 ki_0 ?_
    exact x_iret2 C R 18 dX9_known_18
def M_X9_unit_J91 (σ : Wd) : Option Wd :=
  bnd1 (M_X9_is σ (1 : Int32)) fun r93 => if r93 = 0 then (bnd1 (M_X9_fail σ (1 : Int32)) fun s_113 => some s_113) else (bnd2 (M_X9_known σ) fun r102 s_102 => bnd1 (M_X9_emit s_102 (1 : Int32) r102) fun s_105 => some s_105)
def M_X9_unit (σ : Wd) : Option Wd :=
  bnd1 (M_X9_is σ (2 : Int32)) fun r2 => if r2 = 0 then (if (gI σ 0 13) ≠ 0 then (M_X9_unit_J91 σ) else (chk (ib (gI σ 0 11) 403) (if (gI σ 3 (ix (gI σ 0 11))) < (28 : Int32) then (M_X9_unit_J91 σ) else (chk (ib (gI σ 0 11) 403) (if (30 : Int32) < (gI σ 3 (ix (gI σ 0 11))) then (M_X9_unit_J91 σ) else (chk (ib (gI σ 0 11) 403) (bnd1 (M_X9_emit σ (1 : Int32) (((6 : Int32) + (gI σ 3 (ix (gI σ 0 11)))) - (28 : Int32))) fun s_81 => bnd1 (M_X9_goesOn s_81) fun s_85 => some s_85))))))) else (chk (ib (gI σ 0 11) 403) (bnd1 (M_X9_emit σ (0 : Int32) (gI σ 5 (ix (gI σ 0 11)))) fun s_19 => bnd1 (M_X9_goesOn s_19) fun s_23 => some s_23))
set_option maxRecDepth 100000 in
set_option maxHeartbeats 4000000 in
theorem c_X9_unit (V : Vt) (l : Launch) (σ : Wd) {σ2 : Wd} (h : M_X9_unit σ = some σ2) : Ct l (Zm V) yX9_unit cX9_unit 1 none 4 84 [.ref (zA (Zm V) 0)] σ none σ2 := by
  refine Ct_intro (own := RX9) zm_ok (by decide +kernel) rfl (Nat.le_of_ble_eq_true rfl) [(0, .ref (zA (Zm V) 0))] rfl (fun K C R hKl hnL => ?_)
  have hN := nl_of hnL
  subst hKl
  refine Y_end h ?_
  unfold M_X9_unit
  refine x_aload_n C 0 0 dX9_unit_0 rfl ?_
  refine x_iconst C 1 dX9_unit_1 ki_2 ?_
  refine Y_bnd1 (fun r2 h2 => ?_)
  refine x_callVi C 2 [.int (2 : Int32)] [] rfl tw_1485 mv_X9_is (Nat.le_of_ble_eq_true rfl) (Nat.le_of_ble_eq_true rfl) (Nat.le_of_ble_eq_true rfl) (Nat.le_of_ble_eq_true rfl) (km_0 V _) rfl dX9_unit_2 (c_X9_is V _ _ _ h2) ?_
  refine x_if_eq C 5 29 dX9_unit_5 (by decide) (fun _ => ?_) (fun _ => ?_)
  · refine x_aload_n C 29 0 dX9_unit_29 rfl ?_
    refine fg_fault C 30 dX9_unit_30 ?_
    have hJ91 : ∀ (σ_91 : Wd), Y K (Zm V) (M_X9_unit_J91 σ_91) (fun q => q = σ2) σ_91 91 [(0, .ref (zA (Zm V) 0))] [] := by
      intro σ_91
      unfold M_X9_unit_J91
      refine x_aload_n C 91 0 dX9_unit_91 rfl ?_
      refine x_iconst C 92 dX9_unit_92 ki_1 ?_
      refine Y_bnd1 (fun r93 h93 => ?_)
      refine x_callVi C 93 [.int (1 : Int32)] [] rfl tw_1485 mv_X9_is (Nat.le_of_ble_eq_true rfl) (Nat.le_of_ble_eq_true rfl) (Nat.le_of_ble_eq_true rfl) (Nat.le_of_ble_eq_true rfl) (km_0 V _) rfl dX9_unit_93 (c_X9_is V _ _ _ h93) ?_
      refine x_if_eq C 96 111 dX9_unit_96 (by decide) (fun _ => ?_) (fun _ => ?_)
      · refine x_aload_n C 111 0 dX9_unit_111 rfl ?_
        refine x_iconst C 112 dX9_unit_112 ki_1 ?_
        refine Y_bnd1 (fun s_113 h113 => ?_)
        refine x_callVv C 113 [.int (1 : Int32)] [] rfl tw_1501 mv_X9_fail (Nat.le_of_ble_eq_true rfl) (Nat.le_of_ble_eq_true rfl) (Nat.le_of_ble_eq_true rfl) (Nat.le_of_ble_eq_true rfl) (km_0 V _) rfl dX9_unit_113 (c_X9_fail V _ _ _ h113) ?_
        exact x_vret C R 116 dX9_unit_116
      · refine x_aload_n C 99 0 dX9_unit_99 rfl ?_
        refine x_iconst C 100 dX9_unit_100 ki_1 ?_
        refine x_aload_n C 101 0 dX9_unit_101 rfl ?_
        refine Y_bnd2 (fun r102 s_102 h102 => ?_)
        refine x_callVi C 102 [] [.int (1 : Int32), .ref (zA (Zm V) 0)] rfl tw_1553 mv_X9_known (Nat.le_of_ble_eq_true rfl) (Nat.le_of_ble_eq_true rfl) (Nat.le_of_ble_eq_true rfl) (Nat.le_of_ble_eq_true rfl) (km_0 V _) rfl dX9_unit_102 (c_X9_known V _ _  h102) ?_
        refine Y_bnd1 (fun s_105 h105 => ?_)
        refine x_callVv C 105 [.int (1 : Int32), .int r102] [] rfl tw_1549 mv_X9_emit (Nat.le_of_ble_eq_true rfl) (Nat.le_of_ble_eq_true rfl) (Nat.le_of_ble_eq_true rfl) (Nat.le_of_ble_eq_true rfl) (km_0 V _) rfl dX9_unit_105 (c_X9_emit V _ _ _ _ h105) ?_
        refine x_goto C 108 116 dX9_unit_108 (by decide) ?_
        exact x_vret C R 116 dX9_unit_116
    refine x_if_ne C 33 91 dX9_unit_33 (by decide) (fun _ => ?_) (fun _ => ?_)
    · exact hJ91 _
    · refine x_aload_n C 36 0 dX9_unit_36 rfl ?_
      refine fg_tKind C 37 dX9_unit_37 ?_
      refine x_aload_n C 40 0 dX9_unit_40 rfl ?_
      refine fg_t C 41 dX9_unit_41 ?_
      refine x_iald C 44 (Nat.le_of_ble_eq_true rfl) (km_3 V _) dX9_unit_44 (fun _ => ?_)
      refine x_bipush C 45 dX9_unit_45 kb_28 ?_
      refine x_icmp_lt C 47 91 dX9_unit_47 (by decide) (fun _ => ?_) (fun _ => ?_)
      · exact hJ91 _
      · refine x_aload_n C 50 0 dX9_unit_50 rfl ?_
        refine fg_tKind C 51 dX9_unit_51 ?_
        refine x_aload_n C 54 0 dX9_unit_54 rfl ?_
        refine fg_t C 55 dX9_unit_55 ?_
        refine x_iald C 58 (Nat.le_of_ble_eq_true rfl) (km_3 V _) dX9_unit_58 (fun _ => ?_)
        refine x_bipush C 59 dX9_unit_59 kb_30 ?_
        refine x_icmp_gt C 61 91 dX9_unit_61 (by decide) (fun _ => ?_) (fun _ => ?_)
        · exact hJ91 _
        · refine x_aload_n C 64 0 dX9_unit_64 rfl ?_
          refine x_iconst C 65 dX9_unit_65 ki_1 ?_
          refine x_bipush C 66 dX9_unit_66 kb_6 ?_
          refine x_aload_n C 68 0 dX9_unit_68 rfl ?_
          refine fg_tKind C 69 dX9_unit_69 ?_
          refine x_aload_n C 72 0 dX9_unit_72 rfl ?_
          refine fg_t C 73 dX9_unit_73 ?_
          refine x_iald C 76 (Nat.le_of_ble_eq_true rfl) (km_3 V _) dX9_unit_76 (fun _ => ?_)
          refine x_iadd C 77 dX9_unit_77 ?_
          refine x_bipush C 78 dX9_unit_78 kb_28 ?_
          refine x_isub C 80 dX9_unit_80 ?_
          refine Y_bnd1 (fun s_81 h81 => ?_)
          refine x_callVv C 81 [.int (1 : Int32), .int (((6 : Int32) + (gI σ 3 (ix (gI σ 0 11)))) - (28 : Int32))] [] rfl tw_1549 mv_X9_emit (Nat.le_of_ble_eq_true rfl) (Nat.le_of_ble_eq_true rfl) (Nat.le_of_ble_eq_true rfl) (Nat.le_of_ble_eq_true rfl) (km_0 V _) rfl dX9_unit_81 (c_X9_emit V _ _ _ _ h81) ?_
          refine x_aload_n C 84 0 dX9_unit_84 rfl ?_
          refine Y_bnd1 (fun s_85 h85 => ?_)
          refine x_callVv C 85 [] [] rfl tw_1497 mv_X9_goesOn (Nat.le_of_ble_eq_true rfl) (Nat.le_of_ble_eq_true rfl) (Nat.le_of_ble_eq_true rfl) (Nat.le_of_ble_eq_true rfl) (km_0 V _) rfl dX9_unit_85 (c_X9_goesOn V _ _  h85) ?_
          refine x_goto C 88 116 dX9_unit_88 (by decide) ?_
          exact x_vret C R 116 dX9_unit_116
  · refine x_aload_n C 8 0 dX9_unit_8 rfl ?_
    refine x_iconst C 9 dX9_unit_9 ki_0 ?_
    refine x_aload_n C 10 0 dX9_unit_10 rfl ?_
    refine fg_tValue C 11 dX9_unit_11 ?_
    refine x_aload_n C 14 0 dX9_unit_14 rfl ?_
    refine fg_t C 15 dX9_unit_15 ?_
    refine x_iald C 18 (Nat.le_of_ble_eq_true rfl) (km_5 V _) dX9_unit_18 (fun _ => ?_)
    refine Y_bnd1 (fun s_19 h19 => ?_)
    refine x_callVv C 19 [.int (0 : Int32), .int (gI σ 5 (ix (gI σ 0 11)))] [] rfl tw_1549 mv_X9_emit (Nat.le_of_ble_eq_true rfl) (Nat.le_of_ble_eq_true rfl) (Nat.le_of_ble_eq_true rfl) (Nat.le_of_ble_eq_true rfl) (km_0 V _) rfl dX9_unit_19 (c_X9_emit V _ _ _ _ h19) ?_
    refine x_aload_n C 22 0 dX9_unit_22 rfl ?_
    refine Y_bnd1 (fun s_23 h23 => ?_)
    refine x_callVv C 23 [] [] rfl tw_1497 mv_X9_goesOn (Nat.le_of_ble_eq_true rfl) (Nat.le_of_ble_eq_true rfl) (Nat.le_of_ble_eq_true rfl) (Nat.le_of_ble_eq_true rfl) (km_0 V _) rfl dX9_unit_23 (c_X9_goesOn V _ _  h23) ?_
    refine x_goto C 26 116 dX9_unit_26 (by decide) ?_
    exact x_vret C R 116 dX9_unit_116
def M_X9_comesOut_J84 (σ : Wd) (v1 : Int32) (t0 : Int32) : Option ((Wd) ⊕ ((Wd) ⊕ Wd)) :=
  bnd1 (M_X9_emit σ t0 (0 : Int32)) fun s_85 => some (.inl s_85)
def M_X9_comesOut_J42 (σ : Wd) (v1 : Int32) (v2 : Int32) : Option ((Wd) ⊕ ((Wd) ⊕ Wd)) :=
  lt (uI σ 0 37 ((gI σ 0 37) - (1 : Int32))) fun s_49 => if v2 ≠ (8 : Int32) then (if v2 ≠ (9 : Int32) then (if v2 ≠ (10 : Int32) then (M_X9_comesOut_J84 s_49 v1 (5 : Int32)) else (M_X9_comesOut_J84 s_49 v1 (4 : Int32))) else (M_X9_comesOut_J84 s_49 v1 (3 : Int32))) else (M_X9_comesOut_J84 s_49 v1 (2 : Int32))
def M_X9_comesOut_L0 (v1 : Int32) (σ : Wd) : Option ((Wd) ⊕ ((Wd) ⊕ Wd)) :=
  if (gI σ 0 37) ≤ 0 then (some (.inr (.inl σ))) else (chk (ib ((gI σ 0 37) - (1 : Int32)) 64) (lt (gI σ 22 (ix ((gI σ 0 37) - (1 : Int32)))) fun v2_18 => if v2_18 = (6 : Int32) then (some (.inr (.inr σ))) else (if v1 = 0 then (M_X9_comesOut_J42 σ v1 v2_18) else (if v2_18 = (8 : Int32) then (some (.inr (.inr σ))) else (if v2_18 ≠ (9 : Int32) then (M_X9_comesOut_J42 σ v1 v2_18) else (some (.inr (.inr σ))))))))
def M_X9_comesOut (σ : Wd) (v1 : Int32) : Option Wd :=
  bnd1 (iter (fun s : Wd => M_X9_comesOut_L0 v1 s) FU σ) (sx (un1 fun sx_0 => (some sx_0)) (fun q => some q))
set_option maxRecDepth 100000 in
set_option maxHeartbeats 4000000 in
theorem c_X9_comesOut (V : Vt) (l : Launch) (σ : Wd) (v1 : Int32) {σ2 : Wd} (h : M_X9_comesOut σ v1 = some σ2) : Ct l (Zm V) yX9_comesOut cX9_comesOut 3 none 1 22 [.ref (zA (Zm V) 0), .int v1] σ none σ2 := by
  refine Ct_intro (own := RX9) zm_ok (by decide +kernel) rfl (Nat.le_of_ble_eq_true rfl) [(0, .ref (zA (Zm V) 0)), (1, .int v1)] rfl (fun K C R hKl hnL => ?_)
  have hN := nl_of hnL
  subst hKl
  refine Y_end h ?_
  unfold M_X9_comesOut
  refine x_loop 0 (fun s : Wd => s) (fun s : Wd => [(0, .ref (zA (Zm V) 0)), (1, .int v1)]) (fun E0 hb0 hx0 s => ?_) FU σ
  obtain ⟨s_0, rfl⟩ : ∃ z, z = s := ⟨s, rfl⟩
  show Y K (Zm V) (M_X9_comesOut_L0 v1 s_0) E0 s_0 0 [(0, .ref (zA (Zm V) 0)), (1, .int v1)] []
  unfold M_X9_comesOut_L0
  refine x_aload_n C 0 0 dX9_comesOut_0 rfl ?_
  refine fg_waiting C 1 dX9_comesOut_1 ?_
  refine x_if_le C 4 91 dX9_comesOut_4 (by decide) (fun _ => ?_) (fun _ => ?_)
  · refine x_exl1 hx0 s_0 ?_
    exact x_vret C R 91 dX9_comesOut_91
  · refine x_aload_n C 7 0 dX9_comesOut_7 rfl ?_
    refine fg_waits C 8 dX9_comesOut_8 ?_
    refine x_aload_n C 11 0 dX9_comesOut_11 rfl ?_
    refine fg_waiting C 12 dX9_comesOut_12 ?_
    refine x_iconst C 15 dX9_comesOut_15 ki_1 ?_
    refine x_isub C 16 dX9_comesOut_16 ?_
    refine x_iald C 17 (Nat.le_of_ble_eq_true rfl) (km_22 V _) dX9_comesOut_17 (fun _ => ?_)
    refine x_istore_nt C 18 (fun v2_18 => [(2, .int v2_18), (0, .ref (zA (Zm V) 0)), (1, .int v1)]) dX9_comesOut_18 rfl (hN _ (Nat.le_of_ble_eq_true rfl)) (fun _ => rfl) (fun v2_18 => ?_)
    refine x_iload_n C 19 0 dX9_comesOut_19 rfl ?_
    refine x_bipush C 20 dX9_comesOut_20 kb_6 ?_
    refine x_icmp_eq C 22 41 dX9_comesOut_22 (by decide) (fun _ => ?_) (fun _ => ?_)
    · refine x_exr hx0 _ ?_
      exact x_vret C R 41 dX9_comesOut_41
    · refine x_iload_n C 25 2 dX9_comesOut_25 rfl ?_
      have hJ42 : ∀ (σ_42 : Wd) (v2_42 : Int32), Y K (Zm V) (M_X9_comesOut_J42 σ_42 v1 v2_42) E0 σ_42 42 [(0, .ref (zA (Zm V) 0)), (1, .int v1), (2, .int v2_42)] [] := by
        intro σ_42 v2_42
        unfold M_X9_comesOut_J42
        refine x_aload_n C 42 0 dX9_comesOut_42 rfl ?_
        refine x_dup C 43 dX9_comesOut_43 rfl ?_
        refine fg_waiting C 44 dX9_comesOut_44 ?_
        refine x_iconst C 47 dX9_comesOut_47 ki_1 ?_
        refine x_isub C 48 dX9_comesOut_48 ?_
        refine fp_waiting C 49 dX9_comesOut_49 (fun s_49 => ?_)
        refine x_aload_n C 52 0 dX9_comesOut_52 rfl ?_
        refine x_iload_n C 53 2 dX9_comesOut_53 rfl ?_
        refine x_bipush C 54 dX9_comesOut_54 kb_8 ?_
        have hJ84 : ∀ (σ_84 : Wd) (t0_84 : Int32), Y K (Zm V) (M_X9_comesOut_J84 σ_84 v1 t0_84) E0 σ_84 84 [(0, .ref (zA (Zm V) 0)), (1, .int v1)] [.int t0_84, .ref (zA (Zm V) 0)] := by
          intro σ_84 t0_84
          unfold M_X9_comesOut_J84
          refine x_iconst C 84 dX9_comesOut_84 ki_0 ?_
          refine Y_bnd1 (fun s_85 h85 => ?_)
          refine x_callVv C 85 [.int t0_84, .int (0 : Int32)] [] rfl tw_1549 mv_X9_emit (Nat.le_of_ble_eq_true rfl) (Nat.le_of_ble_eq_true rfl) (Nat.le_of_ble_eq_true rfl) (Nat.le_of_ble_eq_true rfl) (km_0 V _) rfl dX9_comesOut_85 (c_X9_emit V _ _ _ _ h85) ?_
          refine x_goto C 88 0 dX9_comesOut_88 (by decide) ?_
          exact x_back s_85 (hb0 s_85)
        refine x_icmp_ne C 56 63 dX9_comesOut_56 (by decide) (fun _ => ?_) (fun _ => ?_)
        · refine x_iload_n C 63 2 dX9_comesOut_63 rfl ?_
          refine x_bipush C 64 dX9_comesOut_64 kb_9 ?_
          refine x_icmp_ne C 66 73 dX9_comesOut_66 (by decide) (fun _ => ?_) (fun _ => ?_)
          · refine x_iload_n C 73 2 dX9_comesOut_73 rfl ?_
            refine x_bipush C 74 dX9_comesOut_74 kb_10 ?_
            refine x_icmp_ne C 76 83 dX9_comesOut_76 (by decide) (fun _ => ?_) (fun _ => ?_)
            · refine x_iconst C 83 dX9_comesOut_83 ki_5 ?_
              refine Y_sub [0, 1] rfl ?_
              exact hJ84 _ _
            · refine x_iconst C 79 dX9_comesOut_79 ki_4 ?_
              refine x_goto C 80 84 dX9_comesOut_80 (by decide) ?_
              refine Y_sub [0, 1] rfl ?_
              exact hJ84 _ _
          · refine x_iconst C 69 dX9_comesOut_69 ki_3 ?_
            refine x_goto C 70 84 dX9_comesOut_70 (by decide) ?_
            refine Y_sub [0, 1] rfl ?_
            exact hJ84 _ _
        · refine x_iconst C 59 dX9_comesOut_59 ki_2 ?_
          refine x_goto C 60 84 dX9_comesOut_60 (by decide) ?_
          refine Y_sub [0, 1] rfl ?_
          exact hJ84 _ _
      refine x_if_eq C 26 42 dX9_comesOut_26 (by decide) (fun _ => ?_) (fun _ => ?_)
      · refine Y_sub [1, 2, 0] rfl ?_
        exact hJ42 _ _
      · refine x_iload_n C 29 0 dX9_comesOut_29 rfl ?_
        refine x_bipush C 30 dX9_comesOut_30 kb_8 ?_
        refine x_icmp_eq C 32 41 dX9_comesOut_32 (by decide) (fun _ => ?_) (fun _ => ?_)
        · refine x_exr hx0 _ ?_
          exact x_vret C R 41 dX9_comesOut_41
        · refine x_iload_n C 35 0 dX9_comesOut_35 rfl ?_
          refine x_bipush C 36 dX9_comesOut_36 kb_9 ?_
          refine x_icmp_ne C 38 42 dX9_comesOut_38 (by decide) (fun _ => ?_) (fun _ => ?_)
          · refine Y_sub [1, 2, 0] rfl ?_
            exact hJ42 _ _
          · refine x_exr hx0 _ ?_
            exact x_vret C R 41 dX9_comesOut_41
def M_X9_expression_J46 (σ : Wd) (v1 : Int32) : Option ((Wd) ⊕ (Wd)) :=
  lt (uI σ 0 12 ((gI σ 0 12) + (1 : Int32))) fun s_53 => bnd1 (M_X9_goesOn s_53) fun s_57 => chk (ib (gI s_57 0 37) 64) (lt (uI s_57 22 (ix (gI s_57 0 37)) (6 : Int32)) fun s_70 => lt (uI s_70 0 37 ((gI s_70 0 37) + (1 : Int32))) fun s_78 => some (.inl s_78))
def M_X9_expression_L23 (v1 : Int32) (σ : Wd) : Option ((Wd) ⊕ (Wd)) :=
  bnd1 (M_X9_is σ (6 : Int32)) fun r26 => if r26 = 0 then (some (.inr σ)) else (if (gI σ 0 12) ≠ (6 : Int32) then (M_X9_expression_J46 σ v1) else (bnd1 (M_X9_fail σ (2 : Int32)) fun s_43 => M_X9_expression_J46 s_43 v1))
def M_X9_expression_J234 (σ : Wd) (v1 : Int32) (v2 : Int32) (t0 : Int32) : Option ((Int32 × Wd) ⊕ ((Wd) ⊕ Wd)) :=
  bnd1 (M_X9_comesOut σ t0) fun s_234 => chk (ib (gI s_234 0 11) 403) (chk (ib (gI s_234 0 37) 64) (lt (uI s_234 22 (ix (gI s_234 0 37)) (gI s_234 3 (ix (gI s_234 0 11)))) fun s_254 => lt (uI s_254 0 37 ((gI s_254 0 37) + (1 : Int32))) fun s_262 => bnd1 (M_X9_goesOn s_262) fun s_266 => some (.inl (v2, s_266))))
def M_X9_expression_J229 (σ : Wd) (v1 : Int32) (v2 : Int32) : Option ((Int32 × Wd) ⊕ ((Wd) ⊕ Wd)) :=
  M_X9_expression_J234 σ v1 v2 (1 : Int32)
def M_X9_expression_J186 (σ : Wd) (v1 : Int32) (t0 : Int32) : Option ((Int32 × Wd) ⊕ ((Wd) ⊕ Wd)) :=
  if t0 ≠ 0 then (bnd1 (M_X9_is σ (10 : Int32)) fun r214 => if r214 ≠ 0 then (M_X9_expression_J229 σ v1 t0) else (bnd1 (M_X9_is σ (15 : Int32)) fun r223 => if r223 = 0 then (M_X9_expression_J234 σ v1 t0 (0 : Int32)) else (M_X9_expression_J229 σ v1 t0))) else (some (.inr (.inl σ)))
def M_X9_expression_J181 (σ : Wd) (v1 : Int32) : Option ((Int32 × Wd) ⊕ ((Wd) ⊕ Wd)) :=
  M_X9_expression_J186 σ v1 (1 : Int32)
def M_X9_expression_J145 (σ : Wd) (v1 : Int32) : Option ((Int32 × Wd) ⊕ ((Wd) ⊕ Wd)) :=
  bnd1 (M_X9_is σ (8 : Int32)) fun r148 => if r148 ≠ 0 then (M_X9_expression_J181 σ v1) else (bnd1 (M_X9_is σ (9 : Int32)) fun r157 => if r157 ≠ 0 then (M_X9_expression_J181 σ v1) else (bnd1 (M_X9_is σ (10 : Int32)) fun r166 => if r166 ≠ 0 then (M_X9_expression_J181 σ v1) else (bnd1 (M_X9_is σ (15 : Int32)) fun r175 => if r175 = 0 then (M_X9_expression_J186 σ v1 (0 : Int32)) else (M_X9_expression_J181 σ v1))))
def M_X9_expression_L96 (v1 : Int32) (σ : Wd) : Option ((Wd) ⊕ (Wd)) :=
  bnd1 (M_X9_is σ (7 : Int32)) fun r99 => if r99 = 0 then (some (.inr σ)) else (if (gI σ 0 12) ≤ v1 then (some (.inr σ)) else (bnd1 (M_X9_comesOut σ (0 : Int32)) fun s_115 => lt (uI s_115 0 37 ((gI s_115 0 37) - (1 : Int32))) fun s_125 => lt (uI s_125 0 12 ((gI s_125 0 12) - (1 : Int32))) fun s_135 => bnd1 (M_X9_goesOn s_135) fun s_139 => some (.inl s_139)))
def M_X9_expression_L12 (v1 : Int32) (v2 : Int32) (σ : Wd) : Option ((Int32 × Wd) ⊕ ((Wd) ⊕ Wd)) :=
  if v2 = 0 then (some (.inr (.inr σ))) else (if (gI σ 0 13) ≠ 0 then (some (.inr (.inr σ))) else (bnd1 (iter (fun s : Wd => M_X9_expression_L23 v1 s) FU σ) (un1 fun sx_23 => (bnd1 (M_X9_unit sx_23) fun s_85 => if (gI s_85 0 13) ≤ 0 then (bnd1 (iter (fun s : Wd => M_X9_expression_L96 v1 s) FU s_85) (un1 fun sx_96 => (M_X9_expression_J145 sx_96 v1))) else (some (.inr (.inr s_85)))))))
def M_X9_expression_J204 (σ : Wd) : Option Wd :=
  bnd1 (M_X9_comesOut σ (0 : Int32)) fun s_206 => some s_206
def M_X9_expression (σ : Wd) : Option Wd :=
  lt (uI σ 0 37 (0 : Int32)) fun s_2 => lt (gI s_2 0 12) fun v1_9 => bnd1 (iter (fun s : Int32 × Wd => M_X9_expression_L12 v1_9 s.1 s.2) FU ((1 : Int32), s_2)) (sx (un1 fun sx_12 => (if (gI sx_12 0 12) ≤ v1_9 then (M_X9_expression_J204 sx_12) else (bnd1 (M_X9_fail sx_12 (1 : Int32)) fun s_201 => M_X9_expression_J204 s_201))) (fun q => some q))
set_option maxRecDepth 100000 in
set_option maxHeartbeats 4000000 in
theorem c_X9_expression (V : Vt) (l : Launch) (σ : Wd) {σ2 : Wd} (h : M_X9_expression σ = some σ2) : Ct l (Zm V) yX9_expression cX9_expression 3 none 5 104 [.ref (zA (Zm V) 0)] σ none σ2 := by
  refine Ct_intro (own := RX9) zm_ok (by decide +kernel) rfl (Nat.le_of_ble_eq_true rfl) [(0, .ref (zA (Zm V) 0))] rfl (fun K C R hKl hnL => ?_)
  have hN := nl_of hnL
  subst hKl
  refine Y_end h ?_
  unfold M_X9_expression
  refine x_aload_n C 0 0 dX9_expression_0 rfl ?_
  refine x_iconst C 1 dX9_expression_1 ki_0 ?_
  refine fp_waiting C 2 dX9_expression_2 (fun s_2 => ?_)
  refine x_aload_n C 5 0 dX9_expression_5 rfl ?_
  refine fg_open C 6 dX9_expression_6 ?_
  refine x_istore_nt C 9 (fun v1_9 => [(1, .int v1_9), (0, .ref (zA (Zm V) 0))]) dX9_expression_9 rfl (hN _ (Nat.le_of_ble_eq_true rfl)) (fun _ => rfl) (fun v1_9 => ?_)
  refine x_iconst C 10 dX9_expression_10 ki_1 ?_
  refine x_istore_n C 11 (L' := [(2, .int (1 : Int32)), (1, .int v1_9), (0, .ref (zA (Zm V) 0))]) dX9_expression_11 rfl (hN _ (Nat.le_of_ble_eq_true rfl)) rfl ?_
  refine Y_sub [2, 1, 0] rfl ?_
  refine x_loop 12 (fun s : Int32 × Wd => s.2) (fun s : Int32 × Wd => [(0, .ref (zA (Zm V) 0)), (1, .int v1_9), (2, .int s.1)]) (fun E12 hb12 hx12 s => ?_) FU ((1 : Int32), s_2)
  obtain ⟨v2_12, s_12⟩ := s
  show Y K (Zm V) (M_X9_expression_L12 v1_9 v2_12 s_12) E12 s_12 12 [(0, .ref (zA (Zm V) 0)), (1, .int v1_9), (2, .int v2_12)] []
  unfold M_X9_expression_L12
  refine x_iload_n C 12 2 dX9_expression_12 rfl ?_
  refine x_if_eq C 13 272 dX9_expression_13 (by decide) (fun _ => ?_) (fun _ => ?_)
  · refine x_exr hx12 _ ?_
    exact x_vret C R 272 dX9_expression_272
  · refine x_aload_n C 16 0 dX9_expression_16 rfl ?_
    refine fg_fault C 17 dX9_expression_17 ?_
    refine x_if_ne C 20 272 dX9_expression_20 (by decide) (fun _ => ?_) (fun _ => ?_)
    · refine x_exr hx12 _ ?_
      exact x_vret C R 272 dX9_expression_272
    · refine Y_sub [0, 1] rfl ?_
      refine x_loop 23 (fun s : Wd => s) (fun s : Wd => [(0, .ref (zA (Zm V) 0)), (1, .int v1_9)]) (fun E23 hb23 hx23 s => ?_) FU s_12
      obtain ⟨s_23, rfl⟩ : ∃ z, z = s := ⟨s, rfl⟩
      show Y K (Zm V) (M_X9_expression_L23 v1_9 s_23) E23 s_23 23 [(0, .ref (zA (Zm V) 0)), (1, .int v1_9)] []
      unfold M_X9_expression_L23
      refine x_aload_n C 23 0 dX9_expression_23 rfl ?_
      refine x_bipush C 24 dX9_expression_24 kb_6 ?_
      refine Y_bnd1 (fun r26 h26 => ?_)
      refine x_callVi C 26 [.int (6 : Int32)] [] rfl tw_1485 mv_X9_is (Nat.le_of_ble_eq_true rfl) (Nat.le_of_ble_eq_true rfl) (Nat.le_of_ble_eq_true rfl) (Nat.le_of_ble_eq_true rfl) (km_0 V _) rfl dX9_expression_26 (c_X9_is V _ _ _ h26) ?_
      refine x_if_eq C 29 84 dX9_expression_29 (by decide) (fun _ => ?_) (fun _ => ?_)
      · refine x_ex1 hx23 s_23 ?_
        refine x_aload_n C 84 0 dX9_expression_84 rfl ?_
        refine Y_bnd1 (fun s_85 h85 => ?_)
        refine x_callVv C 85 [] [] rfl tw_1545 mv_X9_unit (Nat.le_of_ble_eq_true rfl) (Nat.le_of_ble_eq_true rfl) (Nat.le_of_ble_eq_true rfl) (Nat.le_of_ble_eq_true rfl) (km_0 V _) rfl dX9_expression_85 (c_X9_unit V _ _  h85) ?_
        refine x_aload_n C 88 0 dX9_expression_88 rfl ?_
        refine fg_fault C 89 dX9_expression_89 ?_
        refine x_if_le C 92 96 dX9_expression_92 (by decide) (fun _ => ?_) (fun _ => ?_)
        · have hJ145 : ∀ (σ_145 : Wd), Y K (Zm V) (M_X9_expression_J145 σ_145 v1_9) E12 σ_145 145 [(0, .ref (zA (Zm V) 0)), (1, .int v1_9)] [] := by
            intro σ_145
            unfold M_X9_expression_J145
            refine x_aload_n C 145 0 dX9_expression_145 rfl ?_
            refine x_bipush C 146 dX9_expression_146 kb_8 ?_
            refine Y_bnd1 (fun r148 h148 => ?_)
            refine x_callVi C 148 [.int (8 : Int32)] [] rfl tw_1485 mv_X9_is (Nat.le_of_ble_eq_true rfl) (Nat.le_of_ble_eq_true rfl) (Nat.le_of_ble_eq_true rfl) (Nat.le_of_ble_eq_true rfl) (km_0 V _) rfl dX9_expression_148 (c_X9_is V _ _ _ h148) ?_
            have hJ186 : ∀ (σ_186 : Wd) (t0_186 : Int32), Y K (Zm V) (M_X9_expression_J186 σ_186 v1_9 t0_186) E12 σ_186 186 [(0, .ref (zA (Zm V) 0)), (1, .int v1_9)] [.int t0_186] := by
              intro σ_186 t0_186
              unfold M_X9_expression_J186
              refine x_istore_n C 186 (L' := [(2, .int t0_186), (0, .ref (zA (Zm V) 0)), (1, .int v1_9)]) dX9_expression_186 rfl (hN _ (Nat.le_of_ble_eq_true rfl)) rfl ?_
              refine x_iload_n C 187 0 dX9_expression_187 rfl ?_
              refine x_if_ne C 188 210 dX9_expression_188 (by decide) (fun _ => ?_) (fun _ => ?_)
              · refine x_aload_n C 210 1 dX9_expression_210 rfl ?_
                refine x_aload_n C 211 1 dX9_expression_211 rfl ?_
                refine x_bipush C 212 dX9_expression_212 kb_10 ?_
                refine Y_bnd1 (fun r214 h214 => ?_)
                refine x_callVi C 214 [.int (10 : Int32)] [.ref (zA (Zm V) 0)] rfl tw_1485 mv_X9_is (Nat.le_of_ble_eq_true rfl) (Nat.le_of_ble_eq_true rfl) (Nat.le_of_ble_eq_true rfl) (Nat.le_of_ble_eq_true rfl) (km_0 V _) rfl dX9_expression_214 (c_X9_is V _ _ _ h214) ?_
                have hJ234 : ∀ (σ_234 : Wd) (v2_234 : Int32) (t0_234 : Int32), Y K (Zm V) (M_X9_expression_J234 σ_234 v1_9 v2_234 t0_234) E12 σ_234 234 [(0, .ref (zA (Zm V) 0)), (1, .int v1_9), (2, .int v2_234)] [.int t0_234, .ref (zA (Zm V) 0)] := by
                  intro σ_234 v2_234 t0_234
                  unfold M_X9_expression_J234
                  refine Y_bnd1 (fun s_234 h234 => ?_)
                  refine x_callVv C 234 [.int t0_234] [] rfl tw_1557 mv_X9_comesOut (Nat.le_of_ble_eq_true rfl) (Nat.le_of_ble_eq_true rfl) (Nat.le_of_ble_eq_true rfl) (Nat.le_of_ble_eq_true rfl) (km_0 V _) rfl dX9_expression_234 (c_X9_comesOut V _ _ _ h234) ?_
                  refine x_aload_n C 237 0 dX9_expression_237 rfl ?_
                  refine fg_waits C 238 dX9_expression_238 ?_
                  refine x_aload_n C 241 0 dX9_expression_241 rfl ?_
                  refine fg_waiting C 242 dX9_expression_242 ?_
                  refine x_aload_n C 245 0 dX9_expression_245 rfl ?_
                  refine fg_tKind C 246 dX9_expression_246 ?_
                  refine x_aload_n C 249 0 dX9_expression_249 rfl ?_
                  refine fg_t C 250 dX9_expression_250 ?_
                  refine x_iald C 253 (Nat.le_of_ble_eq_true rfl) (km_3 V _) dX9_expression_253 (fun _ => ?_)
                  refine x_iast C 254 (Nat.le_of_ble_eq_true rfl) (km_22 V) dX9_expression_254 (fun _ s_254 => ?_)
                  refine x_aload_n C 255 0 dX9_expression_255 rfl ?_
                  refine x_dup C 256 dX9_expression_256 rfl ?_
                  refine fg_waiting C 257 dX9_expression_257 ?_
                  refine x_iconst C 260 dX9_expression_260 ki_1 ?_
                  refine x_iadd C 261 dX9_expression_261 ?_
                  refine fp_waiting C 262 dX9_expression_262 (fun s_262 => ?_)
                  refine x_aload_n C 265 0 dX9_expression_265 rfl ?_
                  refine Y_bnd1 (fun s_266 h266 => ?_)
                  refine x_callVv C 266 [] [] rfl tw_1497 mv_X9_goesOn (Nat.le_of_ble_eq_true rfl) (Nat.le_of_ble_eq_true rfl) (Nat.le_of_ble_eq_true rfl) (Nat.le_of_ble_eq_true rfl) (km_0 V _) rfl dX9_expression_266 (c_X9_goesOn V _ _  h266) ?_
                  refine x_goto C 269 12 dX9_expression_269 (by decide) ?_
                  exact x_back (v2_234, s_266) (hb12 (v2_234, s_266))
                have hJ229 : ∀ (σ_229 : Wd) (v2_229 : Int32), Y K (Zm V) (M_X9_expression_J229 σ_229 v1_9 v2_229) E12 σ_229 229 [(0, .ref (zA (Zm V) 0)), (1, .int v1_9), (2, .int v2_229)] [.ref (zA (Zm V) 0)] := by
                  intro σ_229 v2_229
                  unfold M_X9_expression_J229
                  refine x_iconst C 229 dX9_expression_229 ki_1 ?_
                  refine x_goto C 230 234 dX9_expression_230 (by decide) ?_
                  exact hJ234 _ _ _
                refine x_if_ne C 217 229 dX9_expression_217 (by decide) (fun _ => ?_) (fun _ => ?_)
                · refine Y_sub [1, 2, 0] rfl ?_
                  exact hJ229 _ _
                · refine x_aload_n C 220 1 dX9_expression_220 rfl ?_
                  refine x_bipush C 221 dX9_expression_221 kb_15 ?_
                  refine Y_bnd1 (fun r223 h223 => ?_)
                  refine x_callVi C 223 [.int (15 : Int32)] [.ref (zA (Zm V) 0)] rfl tw_1485 mv_X9_is (Nat.le_of_ble_eq_true rfl) (Nat.le_of_ble_eq_true rfl) (Nat.le_of_ble_eq_true rfl) (Nat.le_of_ble_eq_true rfl) (km_0 V _) rfl dX9_expression_223 (c_X9_is V _ _ _ h223) ?_
                  refine x_if_eq C 226 233 dX9_expression_226 (by decide) (fun _ => ?_) (fun _ => ?_)
                  · refine x_iconst C 233 dX9_expression_233 ki_0 ?_
                    refine Y_sub [1, 2, 0] rfl ?_
                    exact hJ234 _ _ _
                  · refine Y_sub [1, 2, 0] rfl ?_
                    exact hJ229 _ _
              · refine x_exl1 hx12 σ_186 ?_
                refine x_aload_n C 191 1 dX9_expression_191 rfl ?_
                refine fg_open C 192 dX9_expression_192 ?_
                refine x_iload_n C 195 2 dX9_expression_195 rfl ?_
                have hJ204 : ∀ (σ_204 : Wd), Y K (Zm V) (M_X9_expression_J204 σ_204) (fun q => q = σ2) σ_204 204 [(0, .ref (zA (Zm V) 0))] [] := by
                  intro σ_204
                  unfold M_X9_expression_J204
                  refine x_aload_n C 204 0 dX9_expression_204 rfl ?_
                  refine x_iconst C 205 dX9_expression_205 ki_0 ?_
                  refine Y_bnd1 (fun s_206 h206 => ?_)
                  refine x_callVv C 206 [.int (0 : Int32)] [] rfl tw_1557 mv_X9_comesOut (Nat.le_of_ble_eq_true rfl) (Nat.le_of_ble_eq_true rfl) (Nat.le_of_ble_eq_true rfl) (Nat.le_of_ble_eq_true rfl) (km_0 V _) rfl dX9_expression_206 (c_X9_comesOut V _ _ _ h206) ?_
                  exact x_vret C R 209 dX9_expression_209
                refine x_icmp_le C 196 204 dX9_expression_196 (by decide) (fun _ => ?_) (fun _ => ?_)
                · refine Y_sub [1] rfl ?_
                  exact hJ204 _
                · refine x_aload_n C 199 1 dX9_expression_199 rfl ?_
                  refine x_iconst C 200 dX9_expression_200 ki_1 ?_
                  refine Y_bnd1 (fun s_201 h201 => ?_)
                  refine x_callVv C 201 [.int (1 : Int32)] [] rfl tw_1501 mv_X9_fail (Nat.le_of_ble_eq_true rfl) (Nat.le_of_ble_eq_true rfl) (Nat.le_of_ble_eq_true rfl) (Nat.le_of_ble_eq_true rfl) (km_0 V _) rfl dX9_expression_201 (c_X9_fail V _ _ _ h201) ?_
                  refine Y_sub [1] rfl ?_
                  exact hJ204 _
            have hJ181 : ∀ (σ_181 : Wd), Y K (Zm V) (M_X9_expression_J181 σ_181 v1_9) E12 σ_181 181 [(0, .ref (zA (Zm V) 0)), (1, .int v1_9)] [] := by
              intro σ_181
              unfold M_X9_expression_J181
              refine x_iconst C 181 dX9_expression_181 ki_1 ?_
              refine x_goto C 182 186 dX9_expression_182 (by decide) ?_
              exact hJ186 _ _
            refine x_if_ne C 151 181 dX9_expression_151 (by decide) (fun _ => ?_) (fun _ => ?_)
            · exact hJ181 _
            · refine x_aload_n C 154 0 dX9_expression_154 rfl ?_
              refine x_bipush C 155 dX9_expression_155 kb_9 ?_
              refine Y_bnd1 (fun r157 h157 => ?_)
              refine x_callVi C 157 [.int (9 : Int32)] [] rfl tw_1485 mv_X9_is (Nat.le_of_ble_eq_true rfl) (Nat.le_of_ble_eq_true rfl) (Nat.le_of_ble_eq_true rfl) (Nat.le_of_ble_eq_true rfl) (km_0 V _) rfl dX9_expression_157 (c_X9_is V _ _ _ h157) ?_
              refine x_if_ne C 160 181 dX9_expression_160 (by decide) (fun _ => ?_) (fun _ => ?_)
              · exact hJ181 _
              · refine x_aload_n C 163 0 dX9_expression_163 rfl ?_
                refine x_bipush C 164 dX9_expression_164 kb_10 ?_
                refine Y_bnd1 (fun r166 h166 => ?_)
                refine x_callVi C 166 [.int (10 : Int32)] [] rfl tw_1485 mv_X9_is (Nat.le_of_ble_eq_true rfl) (Nat.le_of_ble_eq_true rfl) (Nat.le_of_ble_eq_true rfl) (Nat.le_of_ble_eq_true rfl) (km_0 V _) rfl dX9_expression_166 (c_X9_is V _ _ _ h166) ?_
                refine x_if_ne C 169 181 dX9_expression_169 (by decide) (fun _ => ?_) (fun _ => ?_)
                · exact hJ181 _
                · refine x_aload_n C 172 0 dX9_expression_172 rfl ?_
                  refine x_bipush C 173 dX9_expression_173 kb_15 ?_
                  refine Y_bnd1 (fun r175 h175 => ?_)
                  refine x_callVi C 175 [.int (15 : Int32)] [] rfl tw_1485 mv_X9_is (Nat.le_of_ble_eq_true rfl) (Nat.le_of_ble_eq_true rfl) (Nat.le_of_ble_eq_true rfl) (Nat.le_of_ble_eq_true rfl) (km_0 V _) rfl dX9_expression_175 (c_X9_is V _ _ _ h175) ?_
                  refine x_if_eq C 178 185 dX9_expression_178 (by decide) (fun _ => ?_) (fun _ => ?_)
                  · refine x_iconst C 185 dX9_expression_185 ki_0 ?_
                    exact hJ186 _ _
                  · exact hJ181 _
          refine x_loop 96 (fun s : Wd => s) (fun s : Wd => [(0, .ref (zA (Zm V) 0)), (1, .int v1_9)]) (fun E96 hb96 hx96 s => ?_) FU s_85
          obtain ⟨s_96, rfl⟩ : ∃ z, z = s := ⟨s, rfl⟩
          show Y K (Zm V) (M_X9_expression_L96 v1_9 s_96) E96 s_96 96 [(0, .ref (zA (Zm V) 0)), (1, .int v1_9)] []
          unfold M_X9_expression_L96
          refine x_aload_n C 96 0 dX9_expression_96 rfl ?_
          refine x_bipush C 97 dX9_expression_97 kb_7 ?_
          refine Y_bnd1 (fun r99 h99 => ?_)
          refine x_callVi C 99 [.int (7 : Int32)] [] rfl tw_1485 mv_X9_is (Nat.le_of_ble_eq_true rfl) (Nat.le_of_ble_eq_true rfl) (Nat.le_of_ble_eq_true rfl) (Nat.le_of_ble_eq_true rfl) (km_0 V _) rfl dX9_expression_99 (c_X9_is V _ _ _ h99) ?_
          refine x_if_eq C 102 145 dX9_expression_102 (by decide) (fun _ => ?_) (fun _ => ?_)
          · refine x_ex1 hx96 s_96 ?_
            exact hJ145 _
          · refine x_aload_n C 105 0 dX9_expression_105 rfl ?_
            refine fg_open C 106 dX9_expression_106 ?_
            refine x_iload_n C 109 1 dX9_expression_109 rfl ?_
            refine x_icmp_le C 110 145 dX9_expression_110 (by decide) (fun _ => ?_) (fun _ => ?_)
            · refine x_ex1 hx96 s_96 ?_
              exact hJ145 _
            · refine x_aload_n C 113 0 dX9_expression_113 rfl ?_
              refine x_iconst C 114 dX9_expression_114 ki_0 ?_
              refine Y_bnd1 (fun s_115 h115 => ?_)
              refine x_callVv C 115 [.int (0 : Int32)] [] rfl tw_1557 mv_X9_comesOut (Nat.le_of_ble_eq_true rfl) (Nat.le_of_ble_eq_true rfl) (Nat.le_of_ble_eq_true rfl) (Nat.le_of_ble_eq_true rfl) (km_0 V _) rfl dX9_expression_115 (c_X9_comesOut V _ _ _ h115) ?_
              refine x_aload_n C 118 0 dX9_expression_118 rfl ?_
              refine x_dup C 119 dX9_expression_119 rfl ?_
              refine fg_waiting C 120 dX9_expression_120 ?_
              refine x_iconst C 123 dX9_expression_123 ki_1 ?_
              refine x_isub C 124 dX9_expression_124 ?_
              refine fp_waiting C 125 dX9_expression_125 (fun s_125 => ?_)
              refine x_aload_n C 128 0 dX9_expression_128 rfl ?_
              refine x_dup C 129 dX9_expression_129 rfl ?_
              refine fg_open C 130 dX9_expression_130 ?_
              refine x_iconst C 133 dX9_expression_133 ki_1 ?_
              refine x_isub C 134 dX9_expression_134 ?_
              refine fp_open C 135 dX9_expression_135 (fun s_135 => ?_)
              refine x_aload_n C 138 0 dX9_expression_138 rfl ?_
              refine Y_bnd1 (fun s_139 h139 => ?_)
              refine x_callVv C 139 [] [] rfl tw_1497 mv_X9_goesOn (Nat.le_of_ble_eq_true rfl) (Nat.le_of_ble_eq_true rfl) (Nat.le_of_ble_eq_true rfl) (Nat.le_of_ble_eq_true rfl) (km_0 V _) rfl dX9_expression_139 (c_X9_goesOn V _ _  h139) ?_
              refine x_goto C 142 96 dX9_expression_142 (by decide) ?_
              exact x_back s_139 (hb96 s_139)
        · refine x_exr hx12 _ ?_
          exact x_vret C R 95 dX9_expression_95
      · refine x_aload_n C 32 0 dX9_expression_32 rfl ?_
        refine fg_open C 33 dX9_expression_33 ?_
        refine x_bipush C 36 dX9_expression_36 kb_6 ?_
        have hJ46 : ∀ (σ_46 : Wd), Y K (Zm V) (M_X9_expression_J46 σ_46 v1_9) E23 σ_46 46 [(0, .ref (zA (Zm V) 0)), (1, .int v1_9)] [] := by
          intro σ_46
          unfold M_X9_expression_J46
          refine x_aload_n C 46 0 dX9_expression_46 rfl ?_
          refine x_dup C 47 dX9_expression_47 rfl ?_
          refine fg_open C 48 dX9_expression_48 ?_
          refine x_iconst C 51 dX9_expression_51 ki_1 ?_
          refine x_iadd C 52 dX9_expression_52 ?_
          refine fp_open C 53 dX9_expression_53 (fun s_53 => ?_)
          refine x_aload_n C 56 0 dX9_expression_56 rfl ?_
          refine Y_bnd1 (fun s_57 h57 => ?_)
          refine x_callVv C 57 [] [] rfl tw_1497 mv_X9_goesOn (Nat.le_of_ble_eq_true rfl) (Nat.le_of_ble_eq_true rfl) (Nat.le_of_ble_eq_true rfl) (Nat.le_of_ble_eq_true rfl) (km_0 V _) rfl dX9_expression_57 (c_X9_goesOn V _ _  h57) ?_
          refine x_aload_n C 60 0 dX9_expression_60 rfl ?_
          refine fg_waits C 61 dX9_expression_61 ?_
          refine x_aload_n C 64 0 dX9_expression_64 rfl ?_
          refine fg_waiting C 65 dX9_expression_65 ?_
          refine x_bipush C 68 dX9_expression_68 kb_6 ?_
          refine x_iast C 70 (Nat.le_of_ble_eq_true rfl) (km_22 V) dX9_expression_70 (fun _ s_70 => ?_)
          refine x_aload_n C 71 0 dX9_expression_71 rfl ?_
          refine x_dup C 72 dX9_expression_72 rfl ?_
          refine fg_waiting C 73 dX9_expression_73 ?_
          refine x_iconst C 76 dX9_expression_76 ki_1 ?_
          refine x_iadd C 77 dX9_expression_77 ?_
          refine fp_waiting C 78 dX9_expression_78 (fun s_78 => ?_)
          refine x_goto C 81 23 dX9_expression_81 (by decide) ?_
          exact x_back s_78 (hb23 s_78)
        refine x_icmp_ne C 38 46 dX9_expression_38 (by decide) (fun _ => ?_) (fun _ => ?_)
        · exact hJ46 _
        · refine x_aload_n C 41 0 dX9_expression_41 rfl ?_
          refine x_iconst C 42 dX9_expression_42 ki_2 ?_
          refine Y_bnd1 (fun s_43 h43 => ?_)
          refine x_callVv C 43 [.int (2 : Int32)] [] rfl tw_1501 mv_X9_fail (Nat.le_of_ble_eq_true rfl) (Nat.le_of_ble_eq_true rfl) (Nat.le_of_ble_eq_true rfl) (Nat.le_of_ble_eq_true rfl) (km_0 V _) rfl dX9_expression_43 (c_X9_fail V _ _ _ h43) ?_
          exact hJ46 _
def M_X9_termTold (σ : Wd) (v1 : Int32) : Option Wd :=
  chk (ib v1 60) (lt (uI σ 18 (ix v1) (gI σ 0 33)) fun s_9 => if (gI s_9 0 13) ≠ 0 then (some s_9) else (bnd1 (M_X9_expression s_9) fun s_18 => some s_18))
set_option maxRecDepth 100000 in
set_option maxHeartbeats 4000000 in
theorem c_X9_termTold (V : Vt) (l : Launch) (σ : Wd) (v1 : Int32) {σ2 : Wd} (h : M_X9_termTold σ v1 = some σ2) : Ct l (Zm V) yX9_termTold cX9_termTold 2 none 6 126 [.ref (zA (Zm V) 0), .int v1] σ none σ2 := by
  refine Ct_intro (own := RX9) zm_ok (by decide +kernel) rfl (Nat.le_of_ble_eq_true rfl) [(0, .ref (zA (Zm V) 0)), (1, .int v1)] rfl (fun K C R hKl hnL => ?_)
  have hN := nl_of hnL
  subst hKl
  refine Y_end h ?_
  unfold M_X9_termTold
  refine x_aload_n C 0 0 dX9_termTold_0 rfl ?_
  refine fg_formFrom C 1 dX9_termTold_1 ?_
  refine x_iload_n C 4 1 dX9_termTold_4 rfl ?_
  refine x_aload_n C 5 0 dX9_termTold_5 rfl ?_
  refine fg_codes C 6 dX9_termTold_6 ?_
  refine x_iast C 9 (Nat.le_of_ble_eq_true rfl) (km_18 V) dX9_termTold_9 (fun _ s_9 => ?_)
  refine x_aload_n C 10 0 dX9_termTold_10 rfl ?_
  refine fg_fault C 11 dX9_termTold_11 ?_
  refine x_if_ne C 14 21 dX9_termTold_14 (by decide) (fun _ => ?_) (fun _ => ?_)
  · exact x_vret C R 21 dX9_termTold_21
  · refine x_aload_n C 17 0 dX9_termTold_17 rfl ?_
    refine Y_bnd1 (fun s_18 h18 => ?_)
    refine x_callVv C 18 [] [] rfl tw_1541 mv_X9_expression (Nat.le_of_ble_eq_true rfl) (Nat.le_of_ble_eq_true rfl) (Nat.le_of_ble_eq_true rfl) (Nat.le_of_ble_eq_true rfl) (km_0 V _) rfl dX9_termTold_18 (c_X9_expression V _ _  h18) ?_
    exact x_vret C R 21 dX9_termTold_21
def M_X9_tellForm_J199 (σ : Wd) (v1 : Int32) (v2 : Int32) : Option Wd :=
  chk (ib (((5 : Int32) * v1) + (4 : Int32)) 60) (lt (uI σ 18 (ix (((5 : Int32) * v1) + (4 : Int32))) (gI σ 0 33)) fun s_212 => bnd1 (M_X9_must s_212 (4 : Int32)) fun s_215 => if (gI s_215 0 13) ≤ 0 then (chk (ib (gI s_215 0 19) 2) (bnd1 (M_X9_keepsName s_215 v2 ((10 : Int32) + (gI s_215 14 (ix (gI s_215 0 19))))) fun s_240 => chk (ib (gI s_240 0 19) 2) (chk (ib (gI s_240 0 19) 2) (lt (uI s_240 14 (ix (gI s_240 0 19)) ((gI s_240 14 (ix (gI s_240 0 19))) + (1 : Int32))) fun s_255 => some s_255)))) else (some s_215))
def M_X9_tellForm_J189 (σ : Wd) (v1 : Int32) (v2 : Int32) (t0 : Int32) (t1 : Int32) : Option Wd :=
  chk (ib t1 12) (lt (uI σ 17 (ix t1) t0) fun s_189 => bnd1 (M_X9_termTold s_189 (((5 : Int32) * v1) + (3 : Int32))) fun s_196 => M_X9_tellForm_J199 s_196 v1 v2)
def M_X9_tellForm_J125 (σ : Wd) (v1 : Int32) (v2 : Int32) (t0 : Int32) (t1 : Int32) : Option Wd :=
  chk (ib t1 12) (lt (uI σ 16 (ix t1) t0) fun s_125 => bnd1 (M_X9_termTold s_125 (((5 : Int32) * v1) + (2 : Int32))) fun s_132 => chk (ib v1 12) (lt (uI s_132 17 (ix v1) (-1 : Int32)) fun s_141 => chk (ib (((5 : Int32) * v1) + (3 : Int32)) 60) (lt (uI s_141 18 (ix (((5 : Int32) * v1) + (3 : Int32))) (gI s_141 0 33)) fun s_155 => bnd1 (M_X9_is s_155 (26 : Int32)) fun r159 => if r159 = 0 then (M_X9_tellForm_J199 s_155 v1 v2) else (bnd1 (M_X9_goesOn s_155) fun s_166 => if (gI s_166 0 13) ≤ 0 then (bnd2 (M_X9_known s_166) fun r186 s_186 => M_X9_tellForm_J189 s_186 v1 v2 r186 v1) else (M_X9_tellForm_J189 s_166 v1 v2 (0 : Int32) v1)))))
def M_X9_tellForm_J90 (σ : Wd) (v1 : Int32) (v2 : Int32) : Option Wd :=
  bnd1 (M_X9_termTold σ (((5 : Int32) * v1) + (1 : Int32))) fun s_96 => bnd1 (M_X9_must s_96 (25 : Int32)) fun s_102 => if (gI s_102 0 13) ≤ 0 then (bnd2 (M_X9_known s_102) fun r122 s_122 => M_X9_tellForm_J125 s_122 v1 v2 r122 v1) else (M_X9_tellForm_J125 s_102 v1 v2 (0 : Int32) v1)
def M_X9_tellForm_J79 (σ : Wd) (v1 : Int32) (v2 : Int32) : Option Wd :=
  if (gI σ 0 13) ≠ 0 then (M_X9_tellForm_J90 σ v1 v2) else (bnd1 (M_X9_goesOn σ) fun s_87 => M_X9_tellForm_J90 s_87 v1 v2)
def M_X9_tellForm_J56 (σ : Wd) (v1 : Int32) (v2 : Int32) (t0 : Int32) (t1 : Int32) : Option Wd :=
  chk (ib t1 12) (lt (uI σ 15 (ix t1) t0) fun s_56 => bnd1 (M_X9_is s_56 (13 : Int32)) fun r60 => if r60 ≠ 0 then (M_X9_tellForm_J79 s_56 v1 v2) else (bnd1 (M_X9_is s_56 (5 : Int32)) fun r68 => if r68 ≠ 0 then (M_X9_tellForm_J79 s_56 v1 v2) else (bnd1 (M_X9_fail s_56 (1 : Int32)) fun s_76 => M_X9_tellForm_J79 s_76 v1 v2)))
def M_X9_tellForm (σ : Wd) : Option Wd :=
  chk (ib (gI σ 0 19) 2) (lt (((6 : Int32) * (gI σ 0 19)) + (gI σ 14 (ix (gI σ 0 19)))) fun v1_17 => bnd2 (M_X9_named σ) fun r19 s_19 => bnd1 (M_X9_must s_19 (24 : Int32)) fun s_26 => bnd1 (M_X9_termTold s_26 ((5 : Int32) * v1_17)) fun s_33 => bnd1 (M_X9_is s_33 (13 : Int32)) fun r44 => if r44 = 0 then (M_X9_tellForm_J56 s_33 v1_17 r19 (5 : Int32) v1_17) else (M_X9_tellForm_J56 s_33 v1_17 r19 (13 : Int32) v1_17))
set_option maxRecDepth 100000 in
set_option maxHeartbeats 4000000 in
theorem c_X9_tellForm (V : Vt) (l : Launch) (σ : Wd) {σ2 : Wd} (h : M_X9_tellForm σ = some σ2) : Ct l (Zm V) yX9_tellForm cX9_tellForm 3 none 7 147 [.ref (zA (Zm V) 0)] σ none σ2 := by
  refine Ct_intro (own := RX9) zm_ok (by decide +kernel) rfl (Nat.le_of_ble_eq_true rfl) [(0, .ref (zA (Zm V) 0))] rfl (fun K C R hKl hnL => ?_)
  have hN := nl_of hnL
  subst hKl
  refine Y_end h ?_
  unfold M_X9_tellForm
  refine x_bipush C 0 dX9_tellForm_0 kb_6 ?_
  refine x_aload_n C 2 0 dX9_tellForm_2 rfl ?_
  refine fg_side C 3 dX9_tellForm_3 ?_
  refine x_imul C 6 dX9_tellForm_6 ?_
  refine x_aload_n C 7 0 dX9_tellForm_7 rfl ?_
  refine fg_forms C 8 dX9_tellForm_8 ?_
  refine x_aload_n C 11 0 dX9_tellForm_11 rfl ?_
  refine fg_side C 12 dX9_tellForm_12 ?_
  refine x_iald C 15 (Nat.le_of_ble_eq_true rfl) (km_14 V _) dX9_tellForm_15 (fun _ => ?_)
  refine x_iadd C 16 dX9_tellForm_16 ?_
  refine x_istore_nt C 17 (fun v1_17 => [(1, .int v1_17), (0, .ref (zA (Zm V) 0))]) dX9_tellForm_17 rfl (hN _ (Nat.le_of_ble_eq_true rfl)) (fun _ => rfl) (fun v1_17 => ?_)
  refine x_aload_n C 18 1 dX9_tellForm_18 rfl ?_
  refine Y_bnd2 (fun r19 s_19 h19 => ?_)
  refine x_callVi C 19 [] [] rfl tw_1525 mv_X9_named (Nat.le_of_ble_eq_true rfl) (Nat.le_of_ble_eq_true rfl) (Nat.le_of_ble_eq_true rfl) (Nat.le_of_ble_eq_true rfl) (km_0 V _) rfl dX9_tellForm_19 (c_X9_named V _ _  h19) ?_
  refine x_istore_n C 22 (L' := [(2, .int r19), (1, .int v1_17), (0, .ref (zA (Zm V) 0))]) dX9_tellForm_22 rfl (hN _ (Nat.le_of_ble_eq_true rfl)) rfl ?_
  refine x_aload_n C 23 2 dX9_tellForm_23 rfl ?_
  refine x_bipush C 24 dX9_tellForm_24 kb_24 ?_
  refine Y_bnd1 (fun s_26 h26 => ?_)
  refine x_callVv C 26 [.int (24 : Int32)] [] rfl tw_1513 mv_X9_must (Nat.le_of_ble_eq_true rfl) (Nat.le_of_ble_eq_true rfl) (Nat.le_of_ble_eq_true rfl) (Nat.le_of_ble_eq_true rfl) (km_0 V _) rfl dX9_tellForm_26 (c_X9_must V _ _ _ h26) ?_
  refine x_aload_n C 29 2 dX9_tellForm_29 rfl ?_
  refine x_iconst C 30 dX9_tellForm_30 ki_5 ?_
  refine x_iload_n C 31 1 dX9_tellForm_31 rfl ?_
  refine x_imul C 32 dX9_tellForm_32 ?_
  refine Y_bnd1 (fun s_33 h33 => ?_)
  refine x_callVv C 33 [.int ((5 : Int32) * v1_17)] [] rfl tw_1537 mv_X9_termTold (Nat.le_of_ble_eq_true rfl) (Nat.le_of_ble_eq_true rfl) (Nat.le_of_ble_eq_true rfl) (Nat.le_of_ble_eq_true rfl) (km_0 V _) rfl dX9_tellForm_33 (c_X9_termTold V _ _ _ h33) ?_
  refine x_aload_n C 36 2 dX9_tellForm_36 rfl ?_
  refine fg_formSign C 37 dX9_tellForm_37 ?_
  refine x_iload_n C 40 1 dX9_tellForm_40 rfl ?_
  refine x_aload_n C 41 2 dX9_tellForm_41 rfl ?_
  refine x_bipush C 42 dX9_tellForm_42 kb_13 ?_
  refine Y_bnd1 (fun r44 h44 => ?_)
  refine x_callVi C 44 [.int (13 : Int32)] [.int v1_17, .ref (zA (Zm V) 15)] rfl tw_1485 mv_X9_is (Nat.le_of_ble_eq_true rfl) (Nat.le_of_ble_eq_true rfl) (Nat.le_of_ble_eq_true rfl) (Nat.le_of_ble_eq_true rfl) (km_0 V _) rfl dX9_tellForm_44 (c_X9_is V _ _ _ h44) ?_
  have hJ56 : ∀ (σ_56 : Wd) (v1_56 : Int32) (v2_56 : Int32) (t0_56 : Int32) (t1_56 : Int32), Y K (Zm V) (M_X9_tellForm_J56 σ_56 v1_56 v2_56 t0_56 t1_56) (fun q => q = σ2) σ_56 56 [(0, .ref (zA (Zm V) 0)), (1, .int v1_56), (2, .int v2_56)] [.int t0_56, .int t1_56, .ref (zA (Zm V) 15)] := by
    intro σ_56 v1_56 v2_56 t0_56 t1_56
    unfold M_X9_tellForm_J56
    refine x_iast C 56 (Nat.le_of_ble_eq_true rfl) (km_15 V) dX9_tellForm_56 (fun _ s_56 => ?_)
    refine x_aload_n C 57 0 dX9_tellForm_57 rfl ?_
    refine x_bipush C 58 dX9_tellForm_58 kb_13 ?_
    refine Y_bnd1 (fun r60 h60 => ?_)
    refine x_callVi C 60 [.int (13 : Int32)] [] rfl tw_1485 mv_X9_is (Nat.le_of_ble_eq_true rfl) (Nat.le_of_ble_eq_true rfl) (Nat.le_of_ble_eq_true rfl) (Nat.le_of_ble_eq_true rfl) (km_0 V _) rfl dX9_tellForm_60 (c_X9_is V _ _ _ h60) ?_
    have hJ79 : ∀ (σ_79 : Wd) (v1_79 : Int32) (v2_79 : Int32), Y K (Zm V) (M_X9_tellForm_J79 σ_79 v1_79 v2_79) (fun q => q = σ2) σ_79 79 [(0, .ref (zA (Zm V) 0)), (1, .int v1_79), (2, .int v2_79)] [] := by
      intro σ_79 v1_79 v2_79
      unfold M_X9_tellForm_J79
      refine x_aload_n C 79 0 dX9_tellForm_79 rfl ?_
      refine fg_fault C 80 dX9_tellForm_80 ?_
      have hJ90 : ∀ (σ_90 : Wd) (v1_90 : Int32) (v2_90 : Int32), Y K (Zm V) (M_X9_tellForm_J90 σ_90 v1_90 v2_90) (fun q => q = σ2) σ_90 90 [(0, .ref (zA (Zm V) 0)), (1, .int v1_90), (2, .int v2_90)] [] := by
        intro σ_90 v1_90 v2_90
        unfold M_X9_tellForm_J90
        refine x_aload_n C 90 0 dX9_tellForm_90 rfl ?_
        refine x_iconst C 91 dX9_tellForm_91 ki_5 ?_
        refine x_iload_n C 92 1 dX9_tellForm_92 rfl ?_
        refine x_imul C 93 dX9_tellForm_93 ?_
        refine x_iconst C 94 dX9_tellForm_94 ki_1 ?_
        refine x_iadd C 95 dX9_tellForm_95 ?_
        refine Y_bnd1 (fun s_96 h96 => ?_)
        refine x_callVv C 96 [.int (((5 : Int32) * v1_90) + (1 : Int32))] [] rfl tw_1537 mv_X9_termTold (Nat.le_of_ble_eq_true rfl) (Nat.le_of_ble_eq_true rfl) (Nat.le_of_ble_eq_true rfl) (Nat.le_of_ble_eq_true rfl) (km_0 V _) rfl dX9_tellForm_96 (c_X9_termTold V _ _ _ h96) ?_
        refine x_aload_n C 99 0 dX9_tellForm_99 rfl ?_
        refine x_bipush C 100 dX9_tellForm_100 kb_25 ?_
        refine Y_bnd1 (fun s_102 h102 => ?_)
        refine x_callVv C 102 [.int (25 : Int32)] [] rfl tw_1513 mv_X9_must (Nat.le_of_ble_eq_true rfl) (Nat.le_of_ble_eq_true rfl) (Nat.le_of_ble_eq_true rfl) (Nat.le_of_ble_eq_true rfl) (km_0 V _) rfl dX9_tellForm_102 (c_X9_must V _ _ _ h102) ?_
        refine x_aload_n C 105 0 dX9_tellForm_105 rfl ?_
        refine fg_formSets C 106 dX9_tellForm_106 ?_
        refine x_iload_n C 109 1 dX9_tellForm_109 rfl ?_
        refine x_aload_n C 110 0 dX9_tellForm_110 rfl ?_
        refine fg_fault C 111 dX9_tellForm_111 ?_
        have hJ125 : ∀ (σ_125 : Wd) (v1_125 : Int32) (v2_125 : Int32) (t0_125 : Int32) (t1_125 : Int32), Y K (Zm V) (M_X9_tellForm_J125 σ_125 v1_125 v2_125 t0_125 t1_125) (fun q => q = σ2) σ_125 125 [(0, .ref (zA (Zm V) 0)), (1, .int v1_125), (2, .int v2_125)] [.int t0_125, .int t1_125, .ref (zA (Zm V) 16)] := by
          intro σ_125 v1_125 v2_125 t0_125 t1_125
          unfold M_X9_tellForm_J125
          refine x_iast C 125 (Nat.le_of_ble_eq_true rfl) (km_16 V) dX9_tellForm_125 (fun _ s_125 => ?_)
          refine x_aload_n C 126 0 dX9_tellForm_126 rfl ?_
          refine x_iconst C 127 dX9_tellForm_127 ki_5 ?_
          refine x_iload_n C 128 1 dX9_tellForm_128 rfl ?_
          refine x_imul C 129 dX9_tellForm_129 ?_
          refine x_iconst C 130 dX9_tellForm_130 ki_2 ?_
          refine x_iadd C 131 dX9_tellForm_131 ?_
          refine Y_bnd1 (fun s_132 h132 => ?_)
          refine x_callVv C 132 [.int (((5 : Int32) * v1_125) + (2 : Int32))] [] rfl tw_1537 mv_X9_termTold (Nat.le_of_ble_eq_true rfl) (Nat.le_of_ble_eq_true rfl) (Nat.le_of_ble_eq_true rfl) (Nat.le_of_ble_eq_true rfl) (km_0 V _) rfl dX9_tellForm_132 (c_X9_termTold V _ _ _ h132) ?_
          refine x_aload_n C 135 0 dX9_tellForm_135 rfl ?_
          refine fg_formElse C 136 dX9_tellForm_136 ?_
          refine x_iload_n C 139 1 dX9_tellForm_139 rfl ?_
          refine x_iconst C 140 dX9_tellForm_140 ki_m1 ?_
          refine x_iast C 141 (Nat.le_of_ble_eq_true rfl) (km_17 V) dX9_tellForm_141 (fun _ s_141 => ?_)
          refine x_aload_n C 142 0 dX9_tellForm_142 rfl ?_
          refine fg_formFrom C 143 dX9_tellForm_143 ?_
          refine x_iconst C 146 dX9_tellForm_146 ki_5 ?_
          refine x_iload_n C 147 1 dX9_tellForm_147 rfl ?_
          refine x_imul C 148 dX9_tellForm_148 ?_
          refine x_iconst C 149 dX9_tellForm_149 ki_3 ?_
          refine x_iadd C 150 dX9_tellForm_150 ?_
          refine x_aload_n C 151 0 dX9_tellForm_151 rfl ?_
          refine fg_codes C 152 dX9_tellForm_152 ?_
          refine x_iast C 155 (Nat.le_of_ble_eq_true rfl) (km_18 V) dX9_tellForm_155 (fun _ s_155 => ?_)
          refine x_aload_n C 156 0 dX9_tellForm_156 rfl ?_
          refine x_bipush C 157 dX9_tellForm_157 kb_26 ?_
          refine Y_bnd1 (fun r159 h159 => ?_)
          refine x_callVi C 159 [.int (26 : Int32)] [] rfl tw_1485 mv_X9_is (Nat.le_of_ble_eq_true rfl) (Nat.le_of_ble_eq_true rfl) (Nat.le_of_ble_eq_true rfl) (Nat.le_of_ble_eq_true rfl) (km_0 V _) rfl dX9_tellForm_159 (c_X9_is V _ _ _ h159) ?_
          have hJ199 : ∀ (σ_199 : Wd) (v1_199 : Int32) (v2_199 : Int32), Y K (Zm V) (M_X9_tellForm_J199 σ_199 v1_199 v2_199) (fun q => q = σ2) σ_199 199 [(0, .ref (zA (Zm V) 0)), (1, .int v1_199), (2, .int v2_199)] [] := by
            intro σ_199 v1_199 v2_199
            unfold M_X9_tellForm_J199
            refine x_aload_n C 199 0 dX9_tellForm_199 rfl ?_
            refine fg_formFrom C 200 dX9_tellForm_200 ?_
            refine x_iconst C 203 dX9_tellForm_203 ki_5 ?_
            refine x_iload_n C 204 1 dX9_tellForm_204 rfl ?_
            refine x_imul C 205 dX9_tellForm_205 ?_
            refine x_iconst C 206 dX9_tellForm_206 ki_4 ?_
            refine x_iadd C 207 dX9_tellForm_207 ?_
            refine x_aload_n C 208 0 dX9_tellForm_208 rfl ?_
            refine fg_codes C 209 dX9_tellForm_209 ?_
            refine x_iast C 212 (Nat.le_of_ble_eq_true rfl) (km_18 V) dX9_tellForm_212 (fun _ s_212 => ?_)
            refine x_aload_n C 213 0 dX9_tellForm_213 rfl ?_
            refine x_iconst C 214 dX9_tellForm_214 ki_4 ?_
            refine Y_bnd1 (fun s_215 h215 => ?_)
            refine x_callVv C 215 [.int (4 : Int32)] [] rfl tw_1513 mv_X9_must (Nat.le_of_ble_eq_true rfl) (Nat.le_of_ble_eq_true rfl) (Nat.le_of_ble_eq_true rfl) (Nat.le_of_ble_eq_true rfl) (km_0 V _) rfl dX9_tellForm_215 (c_X9_must V _ _ _ h215) ?_
            refine x_aload_n C 218 0 dX9_tellForm_218 rfl ?_
            refine fg_fault C 219 dX9_tellForm_219 ?_
            refine x_if_le C 222 226 dX9_tellForm_222 (by decide) (fun _ => ?_) (fun _ => ?_)
            · refine x_aload_n C 226 0 dX9_tellForm_226 rfl ?_
              refine x_iload_n C 227 2 dX9_tellForm_227 rfl ?_
              refine x_bipush C 228 dX9_tellForm_228 kb_10 ?_
              refine x_aload_n C 230 0 dX9_tellForm_230 rfl ?_
              refine fg_forms C 231 dX9_tellForm_231 ?_
              refine x_aload_n C 234 0 dX9_tellForm_234 rfl ?_
              refine fg_side C 235 dX9_tellForm_235 ?_
              refine x_iald C 238 (Nat.le_of_ble_eq_true rfl) (km_14 V _) dX9_tellForm_238 (fun _ => ?_)
              refine x_iadd C 239 dX9_tellForm_239 ?_
              refine Y_bnd1 (fun s_240 h240 => ?_)
              refine x_callVv C 240 [.int v2_199, .int ((10 : Int32) + (gI s_215 14 (ix (gI s_215 0 19))))] [] rfl tw_1529 mv_X9_keepsName (Nat.le_of_ble_eq_true rfl) (Nat.le_of_ble_eq_true rfl) (Nat.le_of_ble_eq_true rfl) (Nat.le_of_ble_eq_true rfl) (km_0 V _) rfl dX9_tellForm_240 (c_X9_keepsName V _ _ _ _ h240) ?_
              refine x_aload_n C 243 0 dX9_tellForm_243 rfl ?_
              refine fg_forms C 244 dX9_tellForm_244 ?_
              refine x_aload_n C 247 0 dX9_tellForm_247 rfl ?_
              refine fg_side C 248 dX9_tellForm_248 ?_
              refine x_dup2 C 251 dX9_tellForm_251 rfl rfl ?_
              refine x_iald C 252 (Nat.le_of_ble_eq_true rfl) (km_14 V _) dX9_tellForm_252 (fun _ => ?_)
              refine x_iconst C 253 dX9_tellForm_253 ki_1 ?_
              refine x_iadd C 254 dX9_tellForm_254 ?_
              refine x_iast C 255 (Nat.le_of_ble_eq_true rfl) (km_14 V) dX9_tellForm_255 (fun _ s_255 => ?_)
              exact x_vret C R 256 dX9_tellForm_256
            · exact x_vret C R 225 dX9_tellForm_225
          refine x_if_eq C 162 199 dX9_tellForm_162 (by decide) (fun _ => ?_) (fun _ => ?_)
          · exact hJ199 _ _ _
          · refine x_aload_n C 165 0 dX9_tellForm_165 rfl ?_
            refine Y_bnd1 (fun s_166 h166 => ?_)
            refine x_callVv C 166 [] [] rfl tw_1497 mv_X9_goesOn (Nat.le_of_ble_eq_true rfl) (Nat.le_of_ble_eq_true rfl) (Nat.le_of_ble_eq_true rfl) (Nat.le_of_ble_eq_true rfl) (km_0 V _) rfl dX9_tellForm_166 (c_X9_goesOn V _ _  h166) ?_
            refine x_aload_n C 169 0 dX9_tellForm_169 rfl ?_
            refine fg_formElse C 170 dX9_tellForm_170 ?_
            refine x_iload_n C 173 1 dX9_tellForm_173 rfl ?_
            refine x_aload_n C 174 0 dX9_tellForm_174 rfl ?_
            refine fg_fault C 175 dX9_tellForm_175 ?_
            have hJ189 : ∀ (σ_189 : Wd) (v1_189 : Int32) (v2_189 : Int32) (t0_189 : Int32) (t1_189 : Int32), Y K (Zm V) (M_X9_tellForm_J189 σ_189 v1_189 v2_189 t0_189 t1_189) (fun q => q = σ2) σ_189 189 [(0, .ref (zA (Zm V) 0)), (1, .int v1_189), (2, .int v2_189)] [.int t0_189, .int t1_189, .ref (zA (Zm V) 17)] := by
              intro σ_189 v1_189 v2_189 t0_189 t1_189
              unfold M_X9_tellForm_J189
              refine x_iast C 189 (Nat.le_of_ble_eq_true rfl) (km_17 V) dX9_tellForm_189 (fun _ s_189 => ?_)
              refine x_aload_n C 190 0 dX9_tellForm_190 rfl ?_
              refine x_iconst C 191 dX9_tellForm_191 ki_5 ?_
              refine x_iload_n C 192 1 dX9_tellForm_192 rfl ?_
              refine x_imul C 193 dX9_tellForm_193 ?_
              refine x_iconst C 194 dX9_tellForm_194 ki_3 ?_
              refine x_iadd C 195 dX9_tellForm_195 ?_
              refine Y_bnd1 (fun s_196 h196 => ?_)
              refine x_callVv C 196 [.int (((5 : Int32) * v1_189) + (3 : Int32))] [] rfl tw_1537 mv_X9_termTold (Nat.le_of_ble_eq_true rfl) (Nat.le_of_ble_eq_true rfl) (Nat.le_of_ble_eq_true rfl) (Nat.le_of_ble_eq_true rfl) (km_0 V _) rfl dX9_tellForm_196 (c_X9_termTold V _ _ _ h196) ?_
              exact hJ199 _ _ _
            refine x_if_le C 178 185 dX9_tellForm_178 (by decide) (fun _ => ?_) (fun _ => ?_)
            · refine x_aload_n C 185 0 dX9_tellForm_185 rfl ?_
              refine Y_bnd2 (fun r186 s_186 h186 => ?_)
              refine x_callVi C 186 [] [.int v1_125, .ref (zA (Zm V) 17)] rfl tw_1553 mv_X9_known (Nat.le_of_ble_eq_true rfl) (Nat.le_of_ble_eq_true rfl) (Nat.le_of_ble_eq_true rfl) (Nat.le_of_ble_eq_true rfl) (km_0 V _) rfl dX9_tellForm_186 (c_X9_known V _ _  h186) ?_
              exact hJ189 _ _ _ _ _
            · refine x_iconst C 181 dX9_tellForm_181 ki_0 ?_
              refine x_goto C 182 189 dX9_tellForm_182 (by decide) ?_
              exact hJ189 _ _ _ _ _
        refine x_if_le C 114 121 dX9_tellForm_114 (by decide) (fun _ => ?_) (fun _ => ?_)
        · refine x_aload_n C 121 0 dX9_tellForm_121 rfl ?_
          refine Y_bnd2 (fun r122 s_122 h122 => ?_)
          refine x_callVi C 122 [] [.int v1_90, .ref (zA (Zm V) 16)] rfl tw_1553 mv_X9_known (Nat.le_of_ble_eq_true rfl) (Nat.le_of_ble_eq_true rfl) (Nat.le_of_ble_eq_true rfl) (Nat.le_of_ble_eq_true rfl) (km_0 V _) rfl dX9_tellForm_122 (c_X9_known V _ _  h122) ?_
          exact hJ125 _ _ _ _ _
        · refine x_iconst C 117 dX9_tellForm_117 ki_0 ?_
          refine x_goto C 118 125 dX9_tellForm_118 (by decide) ?_
          exact hJ125 _ _ _ _ _
      refine x_if_ne C 83 90 dX9_tellForm_83 (by decide) (fun _ => ?_) (fun _ => ?_)
      · exact hJ90 _ _ _
      · refine x_aload_n C 86 0 dX9_tellForm_86 rfl ?_
        refine Y_bnd1 (fun s_87 h87 => ?_)
        refine x_callVv C 87 [] [] rfl tw_1497 mv_X9_goesOn (Nat.le_of_ble_eq_true rfl) (Nat.le_of_ble_eq_true rfl) (Nat.le_of_ble_eq_true rfl) (Nat.le_of_ble_eq_true rfl) (km_0 V _) rfl dX9_tellForm_87 (c_X9_goesOn V _ _  h87) ?_
        exact hJ90 _ _ _
    refine x_if_ne C 63 79 dX9_tellForm_63 (by decide) (fun _ => ?_) (fun _ => ?_)
    · exact hJ79 _ _ _
    · refine x_aload_n C 66 0 dX9_tellForm_66 rfl ?_
      refine x_iconst C 67 dX9_tellForm_67 ki_5 ?_
      refine Y_bnd1 (fun r68 h68 => ?_)
      refine x_callVi C 68 [.int (5 : Int32)] [] rfl tw_1485 mv_X9_is (Nat.le_of_ble_eq_true rfl) (Nat.le_of_ble_eq_true rfl) (Nat.le_of_ble_eq_true rfl) (Nat.le_of_ble_eq_true rfl) (km_0 V _) rfl dX9_tellForm_68 (c_X9_is V _ _ _ h68) ?_
      refine x_if_ne C 71 79 dX9_tellForm_71 (by decide) (fun _ => ?_) (fun _ => ?_)
      · exact hJ79 _ _ _
      · refine x_aload_n C 74 0 dX9_tellForm_74 rfl ?_
        refine x_iconst C 75 dX9_tellForm_75 ki_1 ?_
        refine Y_bnd1 (fun s_76 h76 => ?_)
        refine x_callVv C 76 [.int (1 : Int32)] [] rfl tw_1501 mv_X9_fail (Nat.le_of_ble_eq_true rfl) (Nat.le_of_ble_eq_true rfl) (Nat.le_of_ble_eq_true rfl) (Nat.le_of_ble_eq_true rfl) (km_0 V _) rfl dX9_tellForm_76 (c_X9_fail V _ _ _ h76) ?_
        exact hJ79 _ _ _
  refine x_if_eq C 47 55 dX9_tellForm_47 (by decide) (fun _ => ?_) (fun _ => ?_)
  · refine x_iconst C 55 dX9_tellForm_55 ki_5 ?_
    refine Y_sub [2, 1, 0] rfl ?_
    exact hJ56 _ _ _ _ _
  · refine x_bipush C 50 dX9_tellForm_50 kb_13 ?_
    refine x_goto C 52 56 dX9_tellForm_52 (by decide) ?_
    refine Y_sub [2, 1, 0] rfl ?_
    exact hJ56 _ _ _ _ _
def M_X9_tellOne (σ : Wd) : Option Wd :=
  chk (ib (gI σ 0 11) 403) (if (gI σ 3 (ix (gI σ 0 11))) = (20 : Int32) then (bnd2 (M_X9_toldInt σ (1 : Int32) (5 : Int32)) fun r67 s_67 => chk (ib (gI σ 0 19) 2) (lt (uI s_67 10 (ix (gI σ 0 19)) r67) fun s_70 => some s_70)) else (if (gI σ 3 (ix (gI σ 0 11))) = (21 : Int32) then (bnd2 (M_X9_toldInt σ (0 : Int32) (4 : Int32)) fun r85 s_85 => chk (ib (gI σ 0 19) 2) (lt (uI s_85 11 (ix (gI σ 0 19)) r85) fun s_88 => some s_88)) else (if (gI σ 3 (ix (gI σ 0 11))) = (22 : Int32) then (chk (ib (gI σ 0 19) 2) (bnd1 (M_X9_roomFor σ (gI σ 12 (ix (gI σ 0 19))) (6 : Int32)) fun s_104 => if (gI s_104 0 13) ≠ 0 then (some s_104) else (bnd1 (M_X9_tellCell s_104) fun s_115 => some s_115))) else (if (gI σ 3 (ix (gI σ 0 11))) = (23 : Int32) then (chk (ib (gI σ 0 19) 2) (bnd1 (M_X9_roomFor σ (gI σ 14 (ix (gI σ 0 19))) (6 : Int32)) fun s_133 => if (gI s_133 0 13) ≠ 0 then (some s_133) else (bnd1 (M_X9_tellForm s_133) fun s_144 => some s_144))) else (if (gI σ 3 (ix (gI σ 0 11))) = (27 : Int32) then (bnd2 (M_X9_toldInt σ (0 : Int32) (9999 : Int32)) fun r163 s_163 => chk (ib (gI σ 0 19) 2) (lt (uI s_163 19 (ix (gI σ 0 19)) r163) fun s_166 => some s_166)) else (bnd1 (M_X9_fail σ (1 : Int32)) fun s_172 => some s_172))))))
set_option maxRecDepth 100000 in
set_option maxHeartbeats 4000000 in
theorem c_X9_tellOne (V : Vt) (l : Launch) (σ : Wd) {σ2 : Wd} (h : M_X9_tellOne σ = some σ2) : Ct l (Zm V) yX9_tellOne cX9_tellOne 1 none 8 169 [.ref (zA (Zm V) 0)] σ none σ2 := by
  refine Ct_intro (own := RX9) zm_ok (by decide +kernel) rfl (Nat.le_of_ble_eq_true rfl) [(0, .ref (zA (Zm V) 0))] rfl (fun K C R hKl hnL => ?_)
  have hN := nl_of hnL
  subst hKl
  refine Y_end h ?_
  unfold M_X9_tellOne
  refine x_aload_n C 0 0 dX9_tellOne_0 rfl ?_
  refine fg_tKind C 1 dX9_tellOne_1 ?_
  refine x_aload_n C 4 0 dX9_tellOne_4 rfl ?_
  refine fg_t C 5 dX9_tellOne_5 ?_
  refine x_iald C 8 (Nat.le_of_ble_eq_true rfl) (km_3 V _) dX9_tellOne_8 (fun _ => ?_)
  refine Y_ite (fun c9 => ?_) (fun c9_20 => ?_)
  · refine x_tswIn C 9 56 (20 : Int32) c9 dX9_tellOne_9 (by decide) (by decide) rfl (by decide) ?_
    refine x_aload_n C 56 0 dX9_tellOne_56 rfl ?_
    refine fg_copies C 57 dX9_tellOne_57 ?_
    refine x_aload_n C 60 0 dX9_tellOne_60 rfl ?_
    refine fg_side C 61 dX9_tellOne_61 ?_
    refine x_aload_n C 64 0 dX9_tellOne_64 rfl ?_
    refine x_iconst C 65 dX9_tellOne_65 ki_1 ?_
    refine x_iconst C 66 dX9_tellOne_66 ki_5 ?_
    refine Y_bnd2 (fun r67 s_67 h67 => ?_)
    refine x_callVi C 67 [.int (1 : Int32), .int (5 : Int32)] [.int (gI σ 0 19), .ref (zA (Zm V) 10)] rfl tw_1493 mv_X9_toldInt (Nat.le_of_ble_eq_true rfl) (Nat.le_of_ble_eq_true rfl) (Nat.le_of_ble_eq_true rfl) (Nat.le_of_ble_eq_true rfl) (km_0 V _) rfl dX9_tellOne_67 (c_X9_toldInt V _ _ _ _ h67) ?_
    refine x_iast C 70 (Nat.le_of_ble_eq_true rfl) (km_10 V) dX9_tellOne_70 (fun _ s_70 => ?_)
    refine x_goto C 71 175 dX9_tellOne_71 (by decide) ?_
    exact x_vret C R 175 dX9_tellOne_175
  refine Y_ite (fun c9 => ?_) (fun c9_21 => ?_)
  · refine x_tswIn C 9 74 (21 : Int32) c9 dX9_tellOne_9 (by decide) (by decide) rfl (by decide) ?_
    refine x_aload_n C 74 0 dX9_tellOne_74 rfl ?_
    refine fg_firstLeader C 75 dX9_tellOne_75 ?_
    refine x_aload_n C 78 0 dX9_tellOne_78 rfl ?_
    refine fg_side C 79 dX9_tellOne_79 ?_
    refine x_aload_n C 82 0 dX9_tellOne_82 rfl ?_
    refine x_iconst C 83 dX9_tellOne_83 ki_0 ?_
    refine x_iconst C 84 dX9_tellOne_84 ki_4 ?_
    refine Y_bnd2 (fun r85 s_85 h85 => ?_)
    refine x_callVi C 85 [.int (0 : Int32), .int (4 : Int32)] [.int (gI σ 0 19), .ref (zA (Zm V) 11)] rfl tw_1493 mv_X9_toldInt (Nat.le_of_ble_eq_true rfl) (Nat.le_of_ble_eq_true rfl) (Nat.le_of_ble_eq_true rfl) (Nat.le_of_ble_eq_true rfl) (km_0 V _) rfl dX9_tellOne_85 (c_X9_toldInt V _ _ _ _ h85) ?_
    refine x_iast C 88 (Nat.le_of_ble_eq_true rfl) (km_11 V) dX9_tellOne_88 (fun _ s_88 => ?_)
    refine x_goto C 89 175 dX9_tellOne_89 (by decide) ?_
    exact x_vret C R 175 dX9_tellOne_175
  refine Y_ite (fun c9 => ?_) (fun c9_22 => ?_)
  · refine x_tswIn C 9 92 (22 : Int32) c9 dX9_tellOne_9 (by decide) (by decide) rfl (by decide) ?_
    refine x_aload_n C 92 0 dX9_tellOne_92 rfl ?_
    refine x_aload_n C 93 0 dX9_tellOne_93 rfl ?_
    refine fg_cells C 94 dX9_tellOne_94 ?_
    refine x_aload_n C 97 0 dX9_tellOne_97 rfl ?_
    refine fg_side C 98 dX9_tellOne_98 ?_
    refine x_iald C 101 (Nat.le_of_ble_eq_true rfl) (km_12 V _) dX9_tellOne_101 (fun _ => ?_)
    refine x_bipush C 102 dX9_tellOne_102 kb_6 ?_
    refine Y_bnd1 (fun s_104 h104 => ?_)
    refine x_callVv C 104 [.int (gI σ 12 (ix (gI σ 0 19))), .int (6 : Int32)] [] rfl tw_1517 mv_X9_roomFor (Nat.le_of_ble_eq_true rfl) (Nat.le_of_ble_eq_true rfl) (Nat.le_of_ble_eq_true rfl) (Nat.le_of_ble_eq_true rfl) (km_0 V _) rfl dX9_tellOne_104 (c_X9_roomFor V _ _ _ _ h104) ?_
    refine x_aload_n C 107 0 dX9_tellOne_107 rfl ?_
    refine fg_fault C 108 dX9_tellOne_108 ?_
    refine x_if_ne C 111 175 dX9_tellOne_111 (by decide) (fun _ => ?_) (fun _ => ?_)
    · exact x_vret C R 175 dX9_tellOne_175
    · refine x_aload_n C 114 0 dX9_tellOne_114 rfl ?_
      refine Y_bnd1 (fun s_115 h115 => ?_)
      refine x_callVv C 115 [] [] rfl tw_1521 mv_X9_tellCell (Nat.le_of_ble_eq_true rfl) (Nat.le_of_ble_eq_true rfl) (Nat.le_of_ble_eq_true rfl) (Nat.le_of_ble_eq_true rfl) (km_0 V _) rfl dX9_tellOne_115 (c_X9_tellCell V _ _  h115) ?_
      refine x_goto C 118 175 dX9_tellOne_118 (by decide) ?_
      exact x_vret C R 175 dX9_tellOne_175
  refine Y_ite (fun c9 => ?_) (fun c9_23 => ?_)
  · refine x_tswIn C 9 121 (23 : Int32) c9 dX9_tellOne_9 (by decide) (by decide) rfl (by decide) ?_
    refine x_aload_n C 121 0 dX9_tellOne_121 rfl ?_
    refine x_aload_n C 122 0 dX9_tellOne_122 rfl ?_
    refine fg_forms C 123 dX9_tellOne_123 ?_
    refine x_aload_n C 126 0 dX9_tellOne_126 rfl ?_
    refine fg_side C 127 dX9_tellOne_127 ?_
    refine x_iald C 130 (Nat.le_of_ble_eq_true rfl) (km_14 V _) dX9_tellOne_130 (fun _ => ?_)
    refine x_bipush C 131 dX9_tellOne_131 kb_6 ?_
    refine Y_bnd1 (fun s_133 h133 => ?_)
    refine x_callVv C 133 [.int (gI σ 14 (ix (gI σ 0 19))), .int (6 : Int32)] [] rfl tw_1517 mv_X9_roomFor (Nat.le_of_ble_eq_true rfl) (Nat.le_of_ble_eq_true rfl) (Nat.le_of_ble_eq_true rfl) (Nat.le_of_ble_eq_true rfl) (km_0 V _) rfl dX9_tellOne_133 (c_X9_roomFor V _ _ _ _ h133) ?_
    refine x_aload_n C 136 0 dX9_tellOne_136 rfl ?_
    refine fg_fault C 137 dX9_tellOne_137 ?_
    refine x_if_ne C 140 175 dX9_tellOne_140 (by decide) (fun _ => ?_) (fun _ => ?_)
    · exact x_vret C R 175 dX9_tellOne_175
    · refine x_aload_n C 143 0 dX9_tellOne_143 rfl ?_
      refine Y_bnd1 (fun s_144 h144 => ?_)
      refine x_callVv C 144 [] [] rfl tw_1533 mv_X9_tellForm (Nat.le_of_ble_eq_true rfl) (Nat.le_of_ble_eq_true rfl) (Nat.le_of_ble_eq_true rfl) (Nat.le_of_ble_eq_true rfl) (km_0 V _) rfl dX9_tellOne_144 (c_X9_tellForm V _ _  h144) ?_
      refine x_goto C 147 175 dX9_tellOne_147 (by decide) ?_
      exact x_vret C R 175 dX9_tellOne_175
  refine Y_ite (fun c9 => ?_) (fun c9_27 => ?_)
  · refine x_tswIn C 9 150 (27 : Int32) c9 dX9_tellOne_9 (by decide) (by decide) rfl (by decide) ?_
    refine x_aload_n C 150 0 dX9_tellOne_150 rfl ?_
    refine fg_seed C 151 dX9_tellOne_151 ?_
    refine x_aload_n C 154 0 dX9_tellOne_154 rfl ?_
    refine fg_side C 155 dX9_tellOne_155 ?_
    refine x_aload_n C 158 0 dX9_tellOne_158 rfl ?_
    refine x_iconst C 159 dX9_tellOne_159 ki_0 ?_
    refine x_sipush C 160 dX9_tellOne_160 ks_9999 ?_
    refine Y_bnd2 (fun r163 s_163 h163 => ?_)
    refine x_callVi C 163 [.int (0 : Int32), .int (9999 : Int32)] [.int (gI σ 0 19), .ref (zA (Zm V) 19)] rfl tw_1493 mv_X9_toldInt (Nat.le_of_ble_eq_true rfl) (Nat.le_of_ble_eq_true rfl) (Nat.le_of_ble_eq_true rfl) (Nat.le_of_ble_eq_true rfl) (km_0 V _) rfl dX9_tellOne_163 (c_X9_toldInt V _ _ _ _ h163) ?_
    refine x_iast C 166 (Nat.le_of_ble_eq_true rfl) (km_19 V) dX9_tellOne_166 (fun _ s_166 => ?_)
    refine x_goto C 167 175 dX9_tellOne_167 (by decide) ?_
    exact x_vret C R 175 dX9_tellOne_175
  · refine x_tswOut C 9 170 [(20 : Int32), (21 : Int32), (22 : Int32), (23 : Int32), (27 : Int32)] dX9_tellOne_9 (by decide) (List.forall_mem_cons.mpr ⟨c9_20, (List.forall_mem_cons.mpr ⟨c9_21, (List.forall_mem_cons.mpr ⟨c9_22, (List.forall_mem_cons.mpr ⟨c9_23, (List.forall_mem_cons.mpr ⟨c9_27, (List.forall_mem_nil _)⟩)⟩)⟩)⟩)⟩) (by decide) ?_
    refine x_aload_n C 170 0 dX9_tellOne_170 rfl ?_
    refine x_iconst C 171 dX9_tellOne_171 ki_1 ?_
    refine Y_bnd1 (fun s_172 h172 => ?_)
    refine x_callVv C 172 [.int (1 : Int32)] [] rfl tw_1501 mv_X9_fail (Nat.le_of_ble_eq_true rfl) (Nat.le_of_ble_eq_true rfl) (Nat.le_of_ble_eq_true rfl) (Nat.le_of_ble_eq_true rfl) (km_0 V _) rfl dX9_tellOne_172 (c_X9_fail V _ _ _ h172) ?_
    exact x_vret C R 175 dX9_tellOne_175
