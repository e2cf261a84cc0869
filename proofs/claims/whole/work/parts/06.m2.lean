/-! the model's methods: programs and contracts -/
def M_X9_begins_L2 (v1 : Int32) (σ : Wd) : Option ((Int32 × Wd) ⊕ (Wd)) :=
  if (770 : Int32) ≤ v1 then (some (.inr σ)) else (chk (ib v1 770) (lt (uI σ 26 (ix v1) (0 : Int32)) fun s_15 => lt (v1 + (1 : Int32)) fun v1_16 => some (.inl (v1_16, s_15))))
def M_X9_begins (σ : Wd) : Option Wd :=
  bnd1 (iter (fun s : Int32 × Wd => M_X9_begins_L2 s.1 s.2) FU ((0 : Int32), σ)) (un1 fun sx_2 => (chk (ib (gI sx_2 0 18) 2) (chk (ib (2 : Int32) 770) (lt (uI sx_2 26 (ix (2 : Int32)) (gI sx_2 11 (ix (gI sx_2 0 18)))) fun s_36 => chk (ib (gI s_36 0 18) 2) (lt (uI s_36 0 43 (gI s_36 19 (ix (gI s_36 0 18)))) fun s_47 => some s_47)))))
set_option maxRecDepth 100000 in
set_option maxHeartbeats 4000000 in
theorem c_X9_begins (V : Vt) (l : Launch) (σ : Wd) {σ2 : Wd} (h : M_X9_begins σ = some σ2) : Ct l (Zm V) yX9_begins cX9_begins 2 none 0 0 [.ref (zA (Zm V) 0)] σ none σ2 := by
  refine Ct_intro (own := RX9) zm_ok (by decide +kernel) rfl (Nat.le_of_ble_eq_true rfl) [(0, .ref (zA (Zm V) 0))] rfl (fun K C R hKl hnL => ?_)
  have hN := nl_of hnL
  subst hKl
  refine Y_end h ?_
  unfold M_X9_begins
  refine x_iconst C 0 dX9_begins_0 ki_0 ?_
  refine x_istore_n C 1 (L' := [(1, .int (0 : Int32)), (0, .ref (zA (Zm V) 0))]) dX9_begins_1 rfl (hN _ (Nat.le_of_ble_eq_true rfl)) rfl ?_
  refine Y_sub [1, 0] rfl ?_
  refine x_loop 2 (fun s : Int32 × Wd => s.2) (fun s : Int32 × Wd => [(0, .ref (zA (Zm V) 0)), (1, .int s.1)]) (fun E2 hb2 hx2 s => ?_) FU ((0 : Int32), σ)
  obtain ⟨v1_2, s_2⟩ := s
  show Y K (Zm V) (M_X9_begins_L2 v1_2 s_2) E2 s_2 2 [(0, .ref (zA (Zm V) 0)), (1, .int v1_2)] []
  unfold M_X9_begins_L2
  refine x_iload_n C 2 1 dX9_begins_2 rfl ?_
  refine x_sipush C 3 dX9_begins_3 ks_770 ?_
  refine x_icmp_ge C 6 22 dX9_begins_6 (by decide) (fun _ => ?_) (fun _ => ?_)
  · refine x_ex1 hx2 s_2 ?_
    refine x_aload_n C 22 0 dX9_begins_22 rfl ?_
    refine fg_row C 23 dX9_begins_23 ?_
    refine x_iconst C 26 dX9_begins_26 ki_2 ?_
    refine x_aload_n C 27 0 dX9_begins_27 rfl ?_
    refine fg_firstLeader C 28 dX9_begins_28 ?_
    refine x_aload_n C 31 0 dX9_begins_31 rfl ?_
    refine fg_live C 32 dX9_begins_32 ?_
    refine x_iald C 35 (Nat.le_of_ble_eq_true rfl) (km_11 V _) dX9_begins_35 (fun _ => ?_)
    refine x_iast C 36 (Nat.le_of_ble_eq_true rfl) (km_26 V) dX9_begins_36 (fun _ s_36 => ?_)
    refine x_aload_n C 37 0 dX9_begins_37 rfl ?_
    refine x_aload_n C 38 0 dX9_begins_38 rfl ?_
    refine fg_seed C 39 dX9_begins_39 ?_
    refine x_aload_n C 42 0 dX9_begins_42 rfl ?_
    refine fg_live C 43 dX9_begins_43 ?_
    refine x_iald C 46 (Nat.le_of_ble_eq_true rfl) (km_19 V _) dX9_begins_46 (fun _ => ?_)
    refine fp_lots C 47 dX9_begins_47 (fun s_47 => ?_)
    exact x_vret C R 50 dX9_begins_50
  · refine x_aload_n C 9 0 dX9_begins_9 rfl ?_
    refine fg_row C 10 dX9_begins_10 ?_
    refine x_iload_n C 13 1 dX9_begins_13 rfl ?_
    refine x_iconst C 14 dX9_begins_14 ki_0 ?_
    refine x_iast C 15 (Nat.le_of_ble_eq_true rfl) (km_26 V) dX9_begins_15 (fun _ s_15 => ?_)
    refine x_iinct C 16 1 (1 : Int32) (fun v1_16 => [(1, .int v1_16), (0, .ref (zA (Zm V) 0))]) dX9_begins_16 rfl ki_1 (hN _ (Nat.le_of_ble_eq_true rfl)) (fun _ => rfl) (fun v1_16 => ?_)
    refine x_goto C 19 2 dX9_begins_19 (by decide) ?_
    refine Y_sub [1, 0] rfl ?_
    exact x_back (v1_16, s_15) (hb2 (v1_16, s_15))
def M_X9_keepsRow_L2 (v1 : Int32) (σ : Wd) : Option ((Int32 × Wd) ⊕ (Wd)) :=
  if (770 : Int32) ≤ v1 then (some (.inr σ)) else (chk (ib v1 770) (chk (ib v1 770) (lt (uI σ 25 (ix v1) (gI σ 26 (ix v1))) fun s_20 => lt (v1 + (1 : Int32)) fun v1_21 => some (.inl (v1_21, s_20)))))
def M_X9_keepsRow (σ : Wd) : Option Wd :=
  bnd1 (iter (fun s : Int32 × Wd => M_X9_keepsRow_L2 s.1 s.2) FU ((0 : Int32), σ)) (un1 fun sx_2 => (some sx_2))
set_option maxRecDepth 100000 in
set_option maxHeartbeats 4000000 in
theorem c_X9_keepsRow (V : Vt) (l : Launch) (σ : Wd) {σ2 : Wd} (h : M_X9_keepsRow σ = some σ2) : Ct l (Zm V) yX9_keepsRow cX9_keepsRow 2 none 0 0 [.ref (zA (Zm V) 0)] σ none σ2 := by
  refine Ct_intro (own := RX9) zm_ok (by decide +kernel) rfl (Nat.le_of_ble_eq_true rfl) [(0, .ref (zA (Zm V) 0))] rfl (fun K C R hKl hnL => ?_)
  have hN := nl_of hnL
  subst hKl
  refine Y_end h ?_
  unfold M_X9_keepsRow
  refine x_iconst C 0 dX9_keepsRow_0 ki_0 ?_
  refine x_istore_n C 1 (L' := [(1, .int (0 : Int32)), (0, .ref (zA (Zm V) 0))]) dX9_keepsRow_1 rfl (hN _ (Nat.le_of_ble_eq_true rfl)) rfl ?_
  refine Y_sub [1, 0] rfl ?_
  refine x_loop 2 (fun s : Int32 × Wd => s.2) (fun s : Int32 × Wd => [(0, .ref (zA (Zm V) 0)), (1, .int s.1)]) (fun E2 hb2 hx2 s => ?_) FU ((0 : Int32), σ)
  obtain ⟨v1_2, s_2⟩ := s
  show Y K (Zm V) (M_X9_keepsRow_L2 v1_2 s_2) E2 s_2 2 [(0, .ref (zA (Zm V) 0)), (1, .int v1_2)] []
  unfold M_X9_keepsRow_L2
  refine x_iload_n C 2 1 dX9_keepsRow_2 rfl ?_
  refine x_sipush C 3 dX9_keepsRow_3 ks_770 ?_
  refine x_icmp_ge C 6 27 dX9_keepsRow_6 (by decide) (fun _ => ?_) (fun _ => ?_)
  · refine x_ex1 hx2 s_2 ?_
    exact x_vret C R 27 dX9_keepsRow_27
  · refine x_aload_n C 9 0 dX9_keepsRow_9 rfl ?_
    refine fg_now C 10 dX9_keepsRow_10 ?_
    refine x_iload_n C 13 1 dX9_keepsRow_13 rfl ?_
    refine x_aload_n C 14 0 dX9_keepsRow_14 rfl ?_
    refine fg_row C 15 dX9_keepsRow_15 ?_
    refine x_iload_n C 18 1 dX9_keepsRow_18 rfl ?_
    refine x_iald C 19 (Nat.le_of_ble_eq_true rfl) (km_26 V _) dX9_keepsRow_19 (fun _ => ?_)
    refine x_iast C 20 (Nat.le_of_ble_eq_true rfl) (km_25 V) dX9_keepsRow_20 (fun _ s_20 => ?_)
    refine x_iinct C 21 1 (1 : Int32) (fun v1_21 => [(1, .int v1_21), (0, .ref (zA (Zm V) 0))]) dX9_keepsRow_21 rfl ki_1 (hN _ (Nat.le_of_ble_eq_true rfl)) (fun _ => rfl) (fun v1_21 => ?_)
    refine x_goto C 24 2 dX9_keepsRow_24 (by decide) ?_
    refine Y_sub [1, 0] rfl ?_
    exact x_back (v1_21, s_20) (hb2 (v1_21, s_20))
def M_X9_read_L10 (v1 : Int32) (σ : Wd) : Option ((Int32 × Wd) ⊕ (Wd)) :=
  if (gI σ 0 4) ≤ v1 then (some (.inr σ)) else (chk (ib v1 2000) (chk (ib v1 2000) (lt (uI σ 2 (ix v1) (vp_nar .byte (gI σ 1 (ix v1)))) fun s_29 => lt (v1 + (1 : Int32)) fun v1_30 => some (.inl (v1_30, s_29)))))
def M_X9_read_L240 (v1 : Int32) (σ : Wd) : Option ((Int32 × Wd) ⊕ (Wd)) :=
  if (3 : Int32) ≤ v1 then (some (.inr σ)) else (chk (ib v1 3) (lt (uI σ 35 (ix v1) (vp_nar .boolean (0 : Int32))) fun s_251 => lt (v1 + (1 : Int32)) fun v1_252 => some (.inl (v1_252, s_251))))
def M_X9_read_J190 (σ : Wd) (t0 : Int32) : Option (Int32 × Wd) :=
  lt (uI σ 0 17 t0) fun s_190 => if (gI s_190 0 13) ≤ 0 then (if (gI s_190 0 15) ≤ 0 then (lt (uI s_190 0 18 (gI s_190 0 19)) fun s_222 => bnd1 (M_X9_begins s_222) fun s_226 => bnd1 (M_X9_keepsRow s_226) fun s_230 => lt (uI s_230 0 51 (0 : Int32)) fun s_235 => bnd1 (iter (fun s : Int32 × Wd => M_X9_read_L240 s.1 s.2) FU ((0 : Int32), s_235)) (un1 fun sx_240 => (some ((0 : Int32), sx_240)))) else (some ((gI s_190 0 15), s_190))) else (some ((gI s_190 0 13), s_190))
def M_X9_read_J160 (σ : Wd) : Option (Int32 × Wd) :=
  if (gI σ 0 13) ≤ 0 then (if (gI σ 0 15) ≤ 0 then (M_X9_read_J190 σ (-1 : Int32)) else (M_X9_read_J190 σ (gI σ 0 16))) else (M_X9_read_J190 σ (gI σ 0 14))
def M_X9_read_J122 (σ : Wd) : Option (Int32 × Wd) :=
  if (gI σ 0 13) ≠ 0 then (M_X9_read_J160 σ) else (chk (ib (gI σ 0 19) 2) (chk (ib (gI σ 0 19) 2) (if (gI σ 11 (ix (gI σ 0 19))) < (gI σ 10 (ix (gI σ 0 19))) then (M_X9_read_J160 σ) else (bnd1 (M_X9_wrong σ (6 : Int32) (gI σ 0 11)) fun s_157 => M_X9_read_J160 s_157))))
def M_X9_read_L100 (σ : Wd) : Option ((Wd) ⊕ (Wd)) :=
  if (gI σ 0 13) ≠ 0 then (some (.inr σ)) else (bnd1 (M_X9_is σ (0 : Int32)) fun r109 => if r109 ≠ 0 then (some (.inr σ)) else (bnd1 (M_X9_tellOne σ) fun s_116 => some (.inl s_116)))
def M_X9_read (σ : Wd) : Option (Int32 × Wd) :=
  lt (uI σ 0 4 (gI σ 0 2)) fun s_5 => bnd1 (iter (fun s : Int32 × Wd => M_X9_read_L10 s.1 s.2) FU ((0 : Int32), s_5)) (un1 fun sx_10 => (lt (uI sx_10 0 2 (0 : Int32)) fun s_38 => bnd1 (M_X9_cut s_38) fun s_42 => lt (uI s_42 0 11 (0 : Int32)) fun s_47 => lt (uI s_47 0 12 (0 : Int32)) fun s_52 => lt (uI s_52 0 13 (0 : Int32)) fun s_57 => lt (uI s_57 0 15 (0 : Int32)) fun s_62 => lt (uI s_62 0 19 ((1 : Int32) - (gI s_62 0 18))) fun s_72 => lt (uI s_72 0 20 (0 : Int32)) fun s_77 => bnd1 (M_X9_plain s_77 (gI s_77 0 19)) fun s_85 => lt (uI s_85 0 33 ((420 : Int32) * (gI s_85 0 19))) fun s_97 => bnd1 (iter (fun s : Wd => M_X9_read_L100 s) FU s_97) (un1 fun sx_100 => (M_X9_read_J122 sx_100))))
set_option maxRecDepth 100000 in
set_option maxHeartbeats 4000000 in
theorem c_X9_read (V : Vt) (l : Launch) (σ : Wd) {r : Int32} {σ2 : Wd} (h : M_X9_read σ = some (r, σ2)) : Ct l (Zm V) yX9_read cX9_read 2 (some .int) 9 189 [.ref (zA (Zm V) 0)] σ (some (.int r)) σ2 := by
  refine Ct_intro (own := RX9) zm_ok (by decide +kernel) rfl (Nat.le_of_ble_eq_true rfl) [(0, .ref (zA (Zm V) 0))] rfl (fun K C R hKl hnL => ?_)
  have hN := nl_of hnL
  subst hKl
  refine Y_end h ?_
  unfold M_X9_read
  refine x_aload_n C 0 0 dX9_read_0 rfl ?_
  refine x_aload_n C 1 0 dX9_read_1 rfl ?_
  refine fg_taped C 2 dX9_read_2 ?_
  refine fp_size C 5 dX9_read_5 (fun s_5 => ?_)
  refine x_iconst C 8 dX9_read_8 ki_0 ?_
  refine x_istore_n C 9 (L' := [(1, .int (0 : Int32)), (0, .ref (zA (Zm V) 0))]) dX9_read_9 rfl (hN _ (Nat.le_of_ble_eq_true rfl)) rfl ?_
  refine Y_sub [1, 0] rfl ?_
  refine x_loop 10 (fun s : Int32 × Wd => s.2) (fun s : Int32 × Wd => [(0, .ref (zA (Zm V) 0)), (1, .int s.1)]) (fun E10 hb10 hx10 s => ?_) FU ((0 : Int32), s_5)
  obtain ⟨v1_10, s_10⟩ := s
  show Y K (Zm V) (M_X9_read_L10 v1_10 s_10) E10 s_10 10 [(0, .ref (zA (Zm V) 0)), (1, .int v1_10)] []
  unfold M_X9_read_L10
  refine x_iload_n C 10 1 dX9_read_10 rfl ?_
  refine x_aload_n C 11 0 dX9_read_11 rfl ?_
  refine fg_size C 12 dX9_read_12 ?_
  refine x_icmp_ge C 15 36 dX9_read_15 (by decide) (fun _ => ?_) (fun _ => ?_)
  · refine x_ex1 hx10 s_10 ?_
    refine x_aload_n C 36 0 dX9_read_36 rfl ?_
    refine x_iconst C 37 dX9_read_37 ki_0 ?_
    refine fp_taped C 38 dX9_read_38 (fun s_38 => ?_)
    refine x_aload_n C 41 0 dX9_read_41 rfl ?_
    refine Y_bnd1 (fun s_42 h42 => ?_)
    refine x_callVv C 42 [] [] rfl tw_1463 mv_X9_cut (Nat.le_of_ble_eq_true rfl) (Nat.le_of_ble_eq_true rfl) (Nat.le_of_ble_eq_true rfl) (Nat.le_of_ble_eq_true rfl) (km_0 V _) rfl dX9_read_42 (c_X9_cut V _ _  h42) ?_
    refine x_aload_n C 45 0 dX9_read_45 rfl ?_
    refine x_iconst C 46 dX9_read_46 ki_0 ?_
    refine fp_t C 47 dX9_read_47 (fun s_47 => ?_)
    refine x_aload_n C 50 0 dX9_read_50 rfl ?_
    refine x_iconst C 51 dX9_read_51 ki_0 ?_
    refine fp_open C 52 dX9_read_52 (fun s_52 => ?_)
    refine x_aload_n C 55 0 dX9_read_55 rfl ?_
    refine x_iconst C 56 dX9_read_56 ki_0 ?_
    refine fp_fault C 57 dX9_read_57 (fun s_57 => ?_)
    refine x_aload_n C 60 0 dX9_read_60 rfl ?_
    refine x_iconst C 61 dX9_read_61 ki_0 ?_
    refine fp_worst C 62 dX9_read_62 (fun s_62 => ?_)
    refine x_aload_n C 65 0 dX9_read_65 rfl ?_
    refine x_iconst C 66 dX9_read_66 ki_1 ?_
    refine x_aload_n C 67 0 dX9_read_67 rfl ?_
    refine fg_live C 68 dX9_read_68 ?_
    refine x_isub C 71 dX9_read_71 ?_
    refine fp_side C 72 dX9_read_72 (fun s_72 => ?_)
    refine x_aload_n C 75 0 dX9_read_75 rfl ?_
    refine x_iconst C 76 dX9_read_76 ki_0 ?_
    refine fp_names C 77 dX9_read_77 (fun s_77 => ?_)
    refine x_aload_n C 80 0 dX9_read_80 rfl ?_
    refine x_aload_n C 81 0 dX9_read_81 rfl ?_
    refine fg_side C 82 dX9_read_82 ?_
    refine Y_bnd1 (fun s_85 h85 => ?_)
    refine x_callVv C 85 [.int (gI s_77 0 19)] [] rfl tw_1251 mv_X9_plain (Nat.le_of_ble_eq_true rfl) (Nat.le_of_ble_eq_true rfl) (Nat.le_of_ble_eq_true rfl) (Nat.le_of_ble_eq_true rfl) (km_0 V _) rfl dX9_read_85 (c_X9_plain V _ _ _ h85) ?_
    refine x_aload_n C 88 0 dX9_read_88 rfl ?_
    refine x_sipush C 89 dX9_read_89 ks_420 ?_
    refine x_aload_n C 92 0 dX9_read_92 rfl ?_
    refine fg_side C 93 dX9_read_93 ?_
    refine x_imul C 96 dX9_read_96 ?_
    refine fp_codes C 97 dX9_read_97 (fun s_97 => ?_)
    have hJ122 : ∀ (σ_122 : Wd), Y K (Zm V) (M_X9_read_J122 σ_122) (fun q => q = (r, σ2)) σ_122 122 [(0, .ref (zA (Zm V) 0))] [] := by
      intro σ_122
      unfold M_X9_read_J122
      refine x_aload_n C 122 0 dX9_read_122 rfl ?_
      refine fg_fault C 123 dX9_read_123 ?_
      have hJ160 : ∀ (σ_160 : Wd), Y K (Zm V) (M_X9_read_J160 σ_160) (fun q => q = (r, σ2)) σ_160 160 [(0, .ref (zA (Zm V) 0))] [] := by
        intro σ_160
        unfold M_X9_read_J160
        refine x_aload_n C 160 0 dX9_read_160 rfl ?_
        refine x_aload_n C 161 0 dX9_read_161 rfl ?_
        refine fg_fault C 162 dX9_read_162 ?_
        have hJ190 : ∀ (σ_190 : Wd) (t0_190 : Int32), Y K (Zm V) (M_X9_read_J190 σ_190 t0_190) (fun q => q = (r, σ2)) σ_190 190 [(0, .ref (zA (Zm V) 0))] [.int t0_190, .ref (zA (Zm V) 0)] := by
          intro σ_190 t0_190
          unfold M_X9_read_J190
          refine fp_place C 190 dX9_read_190 (fun s_190 => ?_)
          refine x_aload_n C 193 0 dX9_read_193 rfl ?_
          refine fg_fault C 194 dX9_read_194 ?_
          refine x_if_le C 197 205 dX9_read_197 (by decide) (fun _ => ?_) (fun _ => ?_)
          · refine x_aload_n C 205 0 dX9_read_205 rfl ?_
            refine fg_worst C 206 dX9_read_206 ?_
            refine x_if_le C 209 217 dX9_read_209 (by decide) (fun _ => ?_) (fun _ => ?_)
            · refine x_aload_n C 217 0 dX9_read_217 rfl ?_
              refine x_aload_n C 218 0 dX9_read_218 rfl ?_
              refine fg_side C 219 dX9_read_219 ?_
              refine fp_live C 222 dX9_read_222 (fun s_222 => ?_)
              refine x_aload_n C 225 0 dX9_read_225 rfl ?_
              refine Y_bnd1 (fun s_226 h226 => ?_)
              refine x_callVv C 226 [] [] rfl tw_1262 mv_X9_begins (Nat.le_of_ble_eq_true rfl) (Nat.le_of_ble_eq_true rfl) (Nat.le_of_ble_eq_true rfl) (Nat.le_of_ble_eq_true rfl) (km_0 V _) rfl dX9_read_226 (c_X9_begins V _ _  h226) ?_
              refine x_aload_n C 229 0 dX9_read_229 rfl ?_
              refine Y_bnd1 (fun s_230 h230 => ?_)
              refine x_callVv C 230 [] [] rfl tw_1266 mv_X9_keepsRow (Nat.le_of_ble_eq_true rfl) (Nat.le_of_ble_eq_true rfl) (Nat.le_of_ble_eq_true rfl) (Nat.le_of_ble_eq_true rfl) (km_0 V _) rfl dX9_read_230 (c_X9_keepsRow V _ _  h230) ?_
              refine x_aload_n C 233 0 dX9_read_233 rfl ?_
              refine x_iconst C 234 dX9_read_234 ki_0 ?_
              refine fp_undos C 235 dX9_read_235 (fun s_235 => ?_)
              refine x_iconst C 238 dX9_read_238 ki_0 ?_
              refine x_istore_n C 239 (L' := [(1, .int (0 : Int32)), (0, .ref (zA (Zm V) 0))]) dX9_read_239 rfl (hN _ (Nat.le_of_ble_eq_true rfl)) rfl ?_
              refine Y_sub [1, 0] rfl ?_
              refine x_loop 240 (fun s : Int32 × Wd => s.2) (fun s : Int32 × Wd => [(0, .ref (zA (Zm V) 0)), (1, .int s.1)]) (fun E240 hb240 hx240 s => ?_) FU ((0 : Int32), s_235)
              obtain ⟨v1_240, s_240⟩ := s
              show Y K (Zm V) (M_X9_read_L240 v1_240 s_240) E240 s_240 240 [(0, .ref (zA (Zm V) 0)), (1, .int v1_240)] []
              unfold M_X9_read_L240
              refine x_iload_n C 240 1 dX9_read_240 rfl ?_
              refine x_iconst C 241 dX9_read_241 ki_3 ?_
              refine x_icmp_ge C 242 258 dX9_read_242 (by decide) (fun _ => ?_) (fun _ => ?_)
              · refine x_ex1 hx240 s_240 ?_
                refine x_iconst C 258 dX9_read_258 ki_0 ?_
                exact x_iret2 C R 259 dX9_read_259
              · refine x_aload_n C 245 0 dX9_read_245 rfl ?_
                refine fg_isHeld C 246 dX9_read_246 ?_
                refine x_iload_n C 249 1 dX9_read_249 rfl ?_
                refine x_iconst C 250 dX9_read_250 ki_0 ?_
                refine x_zast C 251 (Nat.le_of_ble_eq_true rfl) (km_35 V) dX9_read_251 (fun _ s_251 => ?_)
                refine x_iinct C 252 1 (1 : Int32) (fun v1_252 => [(1, .int v1_252), (0, .ref (zA (Zm V) 0))]) dX9_read_252 rfl ki_1 (hN _ (Nat.le_of_ble_eq_true rfl)) (fun _ => rfl) (fun v1_252 => ?_)
                refine x_goto C 255 240 dX9_read_255 (by decide) ?_
                refine Y_sub [1, 0] rfl ?_
                exact x_back (v1_252, s_251) (hb240 (v1_252, s_251))
            · refine x_aload_n C 212 0 dX9_read_212 rfl ?_
              refine fg_worst C 213 dX9_read_213 ?_
              exact x_iret2 C R 216 dX9_read_216
          · refine x_aload_n C 200 0 dX9_read_200 rfl ?_
            refine fg_fault C 201 dX9_read_201 ?_
            exact x_iret2 C R 204 dX9_read_204
        refine x_if_le C 165 175 dX9_read_165 (by decide) (fun _ => ?_) (fun _ => ?_)
        · refine x_aload_n C 175 0 dX9_read_175 rfl ?_
          refine fg_worst C 176 dX9_read_176 ?_
          refine x_if_le C 179 189 dX9_read_179 (by decide) (fun _ => ?_) (fun _ => ?_)
          · refine x_iconst C 189 dX9_read_189 ki_m1 ?_
            exact hJ190 _ _
          · refine x_aload_n C 182 0 dX9_read_182 rfl ?_
            refine fg_worstPlace C 183 dX9_read_183 ?_
            refine x_goto C 186 190 dX9_read_186 (by decide) ?_
            exact hJ190 _ _
        · refine x_aload_n C 168 0 dX9_read_168 rfl ?_
          refine fg_faultPlace C 169 dX9_read_169 ?_
          refine x_goto C 172 190 dX9_read_172 (by decide) ?_
          exact hJ190 _ _
      refine x_if_ne C 126 160 dX9_read_126 (by decide) (fun _ => ?_) (fun _ => ?_)
      · exact hJ160 _
      · refine x_aload_n C 129 0 dX9_read_129 rfl ?_
        refine fg_firstLeader C 130 dX9_read_130 ?_
        refine x_aload_n C 133 0 dX9_read_133 rfl ?_
        refine fg_side C 134 dX9_read_134 ?_
        refine x_iald C 137 (Nat.le_of_ble_eq_true rfl) (km_11 V _) dX9_read_137 (fun _ => ?_)
        refine x_aload_n C 138 0 dX9_read_138 rfl ?_
        refine fg_copies C 139 dX9_read_139 ?_
        refine x_aload_n C 142 0 dX9_read_142 rfl ?_
        refine fg_side C 143 dX9_read_143 ?_
        refine x_iald C 146 (Nat.le_of_ble_eq_true rfl) (km_10 V _) dX9_read_146 (fun _ => ?_)
        refine x_icmp_lt C 147 160 dX9_read_147 (by decide) (fun _ => ?_) (fun _ => ?_)
        · exact hJ160 _
        · refine x_aload_n C 150 0 dX9_read_150 rfl ?_
          refine x_bipush C 151 dX9_read_151 kb_6 ?_
          refine x_aload_n C 153 0 dX9_read_153 rfl ?_
          refine fg_t C 154 dX9_read_154 ?_
          refine Y_bnd1 (fun s_157 h157 => ?_)
          refine x_callVv C 157 [.int (6 : Int32), .int (gI σ_122 0 11)] [] rfl tw_1509 mv_X9_wrong (Nat.le_of_ble_eq_true rfl) (Nat.le_of_ble_eq_true rfl) (Nat.le_of_ble_eq_true rfl) (Nat.le_of_ble_eq_true rfl) (km_0 V _) rfl dX9_read_157 (c_X9_wrong V _ _ _ _ h157) ?_
          exact hJ160 _
    refine Y_sub [0] rfl ?_
    refine x_loop 100 (fun s : Wd => s) (fun s : Wd => [(0, .ref (zA (Zm V) 0))]) (fun E100 hb100 hx100 s => ?_) FU s_97
    obtain ⟨s_100, rfl⟩ : ∃ z, z = s := ⟨s, rfl⟩
    show Y K (Zm V) (M_X9_read_L100 s_100) E100 s_100 100 [(0, .ref (zA (Zm V) 0))] []
    unfold M_X9_read_L100
    refine x_aload_n C 100 0 dX9_read_100 rfl ?_
    refine fg_fault C 101 dX9_read_101 ?_
    refine x_if_ne C 104 122 dX9_read_104 (by decide) (fun _ => ?_) (fun _ => ?_)
    · refine x_ex1 hx100 s_100 ?_
      exact hJ122 _
    · refine x_aload_n C 107 0 dX9_read_107 rfl ?_
      refine x_iconst C 108 dX9_read_108 ki_0 ?_
      refine Y_bnd1 (fun r109 h109 => ?_)
      refine x_callVi C 109 [.int (0 : Int32)] [] rfl tw_1485 mv_X9_is (Nat.le_of_ble_eq_true rfl) (Nat.le_of_ble_eq_true rfl) (Nat.le_of_ble_eq_true rfl) (Nat.le_of_ble_eq_true rfl) (km_0 V _) rfl dX9_read_109 (c_X9_is V _ _ _ h109) ?_
      refine x_if_ne C 112 122 dX9_read_112 (by decide) (fun _ => ?_) (fun _ => ?_)
      · refine x_ex1 hx100 s_100 ?_
        exact hJ122 _
      · refine x_aload_n C 115 0 dX9_read_115 rfl ?_
        refine Y_bnd1 (fun s_116 h116 => ?_)
        refine x_callVv C 116 [] [] rfl tw_1489 mv_X9_tellOne (Nat.le_of_ble_eq_true rfl) (Nat.le_of_ble_eq_true rfl) (Nat.le_of_ble_eq_true rfl) (Nat.le_of_ble_eq_true rfl) (km_0 V _) rfl dX9_read_116 (c_X9_tellOne V _ _  h116) ?_
        refine x_goto C 119 100 dX9_read_119 (by decide) ?_
        exact x_back s_116 (hb100 s_116)
  · refine x_aload_n C 18 0 dX9_read_18 rfl ?_
    refine fg_text C 19 dX9_read_19 ?_
    refine x_iload_n C 22 1 dX9_read_22 rfl ?_
    refine x_aload_n C 23 0 dX9_read_23 rfl ?_
    refine fg_tape C 24 dX9_read_24 ?_
    refine x_iload_n C 27 1 dX9_read_27 rfl ?_
    refine x_bald C 28 (Nat.le_of_ble_eq_true rfl) (km_1 V _) dX9_read_28 (fun _ => ?_)
    refine x_bast C 29 (Nat.le_of_ble_eq_true rfl) (km_2 V) dX9_read_29 (fun _ s_29 => ?_)
    refine x_iinct C 30 1 (1 : Int32) (fun v1_30 => [(1, .int v1_30), (0, .ref (zA (Zm V) 0))]) dX9_read_30 rfl ki_1 (hN _ (Nat.le_of_ble_eq_true rfl)) (fun _ => rfl) (fun v1_30 => ?_)
    refine x_goto C 33 10 dX9_read_33 (by decide) ?_
    refine Y_sub [1, 0] rfl ?_
    exact x_back (v1_30, s_29) (hb10 (v1_30, s_29))
def M_X9_place (σ : Wd) : Option Int32 :=
  some (gI σ 0 17)
set_option maxRecDepth 100000 in
set_option maxHeartbeats 4000000 in
theorem c_X9_place (V : Vt) (l : Launch) (σ : Wd) {r : Int32} (h : M_X9_place σ = some r) : Ct l (Zm V) yX9_place cX9_place 1 (some .int) 0 0 [.ref (zA (Zm V) 0)] σ (some (.int r)) σ := by
  refine Ct_intro (own := RX9) zm_ok (by decide +kernel) rfl (Nat.le_of_ble_eq_true rfl) [(0, .ref (zA (Zm V) 0))] rfl (fun K C R hKl hnL => ?_)
  have hN := nl_of hnL
  subst hKl
  refine Y_end h ?_
  unfold M_X9_place
  refine x_aload_n C 0 0 dX9_place_0 rfl ?_
  refine fg_place C 1 dX9_place_1 ?_
  exact x_iret1 C R 4 dX9_place_4
def M_X9_termOf_J158 (σ : Wd) (v2 : Int32) (v3 : Int32) (v4 : Int32) (t0 : Int32) (t1 : Int32) : Option ((Int32 × Int32 × Wd) ⊕ ((Wd) ⊕ (Int32 × Wd))) :=
  chk (ib t1 400) (lt (uI σ 24 (ix t1) t0) fun s_158 => lt (v4 + (1 : Int32)) fun v4_159 => some (.inl (v3, v4_159, s_158)))
def M_X9_termOf_J104 (σ : Wd) (v2 : Int32) (v3 : Int32) (v4 : Int32) (v5 : Int32) (v6 : Int32) (v7 : Int32) : Option ((Int32 × Int32 × Wd) ⊕ ((Wd) ⊕ (Int32 × Wd))) :=
  if v5 ≠ (2 : Int32) then (if v5 ≠ (3 : Int32) then (if v5 ≠ (4 : Int32) then (chk (¬ v7 = 0) (M_X9_termOf_J158 σ v2 v3 v4 (v6 / v7) (v3 - (1 : Int32)))) else (M_X9_termOf_J158 σ v2 v3 v4 (v6 * v7) (v3 - (1 : Int32)))) else (M_X9_termOf_J158 σ v2 v3 v4 (v6 - v7) (v3 - (1 : Int32)))) else (M_X9_termOf_J158 σ v2 v3 v4 (v6 + v7) (v3 - (1 : Int32)))
def M_X9_termOf_J58 (σ : Wd) (v2 : Int32) (v3 : Int32) (v4 : Int32) (t0 : Int32) (t1 : Int32) : Option ((Int32 × Int32 × Wd) ⊕ ((Wd) ⊕ (Int32 × Wd))) :=
  chk (ib t1 400) (lt (uI σ 24 (ix t1) t0) fun s_58 => lt (v3 + (1 : Int32)) fun v3_59 => lt (v4 + (1 : Int32)) fun v4_159 => some (.inl (v3_59, v4_159, s_58)))
def M_X9_termOf_L5 (v2 : Int32) (v3 : Int32) (v4 : Int32) (σ : Wd) : Option ((Int32 × Int32 × Wd) ⊕ ((Wd) ⊕ (Int32 × Wd))) :=
  if v2 ≤ v4 then (chk (ib (0 : Int32) 400) (some (.inr (.inr ((gI σ 24 (ix (0 : Int32))), σ))))) else (chk (ib v4 840) (lt (gI σ 20 (ix v4)) fun v5_18 => if (2 : Int32) ≤ v5_18 then (lt (v3 + (-1 : Int32)) fun v3_65 => chk (ib (v3_65 - (1 : Int32)) 400) (lt (gI σ 24 (ix (v3_65 - (1 : Int32)))) fun v6_76 => chk (ib v3_65 400) (lt (gI σ 24 (ix v3_65)) fun v7_84 => if v5_18 ≠ (5 : Int32) then (M_X9_termOf_J104 σ v2 v3_65 v4 v5_18 v6_76 v7_84) else (if v7_84 ≠ 0 then (M_X9_termOf_J104 σ v2 v3_65 v4 v5_18 v6_76 v7_84) else (some (.inr (.inl σ))))))) else (if v5_18 ≠ 0 then (chk (ib v4 840) (chk (ib (gI σ 21 (ix v4)) 9) (M_X9_termOf_J58 σ v2 v3 v4 (gI σ 23 (ix (gI σ 21 (ix v4)))) v3))) else (chk (ib v4 840) (M_X9_termOf_J58 σ v2 v3 v4 (gI σ 21 (ix v4)) v3)))))
def M_X9_termOf (σ : Wd) (v1 : Int32) (v2 : Int32) : Option (Int32 × Wd) :=
  bnd1 (iter (fun s : Int32 × Int32 × Wd => M_X9_termOf_L5 v2 s.1 s.2.1 s.2.2) FU ((0 : Int32), v1, σ)) (sx (un1 fun sx_5 => (lt (uI sx_5 0 40 (1 : Int32)) fun s_99 => some ((0 : Int32), s_99))) (fun q => some q))
set_option maxRecDepth 100000 in
set_option maxHeartbeats 4000000 in
theorem c_X9_termOf (V : Vt) (l : Launch) (σ : Wd) (v1 : Int32) (v2 : Int32) {r : Int32} {σ2 : Wd} (h : M_X9_termOf σ v1 v2 = some (r, σ2)) : Ct l (Zm V) yX9_termOf cX9_termOf 8 (some .int) 0 0 [.ref (zA (Zm V) 0), .int v1, .int v2] σ (some (.int r)) σ2 := by
  refine Ct_intro (own := RX9) zm_ok (by decide +kernel) rfl (Nat.le_of_ble_eq_true rfl) [(0, .ref (zA (Zm V) 0)), (1, .int v1), (2, .int v2)] rfl (fun K C R hKl hnL => ?_)
  have hN := nl_of hnL
  subst hKl
  refine Y_end h ?_
  unfold M_X9_termOf
  refine x_iconst C 0 dX9_termOf_0 ki_0 ?_
  refine x_istore_n C 1 (L' := [(3, .int (0 : Int32)), (0, .ref (zA (Zm V) 0)), (1, .int v1), (2, .int v2)]) dX9_termOf_1 rfl (hN _ (Nat.le_of_ble_eq_true rfl)) rfl ?_
  refine x_iload_n C 2 2 dX9_termOf_2 rfl ?_
  refine x_istore C 3 (L' := [(4, .int v1), (3, .int (0 : Int32)), (0, .ref (zA (Zm V) 0)), (1, .int v1), (2, .int v2)]) dX9_termOf_3 (hN _ (Nat.le_of_ble_eq_true rfl)) rfl ?_
  refine Y_sub [2, 4, 1, 0] rfl ?_
  refine x_loop 5 (fun s : Int32 × Int32 × Wd => s.2.2) (fun s : Int32 × Int32 × Wd => [(0, .ref (zA (Zm V) 0)), (2, .int v2), (3, .int s.1), (4, .int s.2.1)]) (fun E5 hb5 hx5 s => ?_) FU ((0 : Int32), v1, σ)
  obtain ⟨v3_5, v4_5, s_5⟩ := s
  show Y K (Zm V) (M_X9_termOf_L5 v2 v3_5 v4_5 s_5) E5 s_5 5 [(0, .ref (zA (Zm V) 0)), (2, .int v2), (3, .int v3_5), (4, .int v4_5)] []
  unfold M_X9_termOf_L5
  refine x_iload C 5 3 dX9_termOf_5 rfl ?_
  refine x_iload_n C 7 1 dX9_termOf_7 rfl ?_
  refine x_icmp_ge C 8 165 dX9_termOf_8 (by decide) (fun _ => ?_) (fun _ => ?_)
  · refine x_aload_n C 165 0 dX9_termOf_165 rfl ?_
    refine fg_pile C 166 dX9_termOf_166 ?_
    refine x_iconst C 169 dX9_termOf_169 ki_0 ?_
    refine x_iald C 170 (Nat.le_of_ble_eq_true rfl) (km_24 V _) dX9_termOf_170 (fun _ => ?_)
    refine x_exr hx5 _ ?_
    exact x_iret2 C R 171 dX9_termOf_171
  · refine x_aload_n C 11 0 dX9_termOf_11 rfl ?_
    refine fg_code C 12 dX9_termOf_12 ?_
    refine x_iload C 15 3 dX9_termOf_15 rfl ?_
    refine x_iald C 17 (Nat.le_of_ble_eq_true rfl) (km_20 V _) dX9_termOf_17 (fun _ => ?_)
    refine x_istoret C 18 (fun v5_18 => [(5, .int v5_18), (0, .ref (zA (Zm V) 0)), (2, .int v2), (3, .int v3_5), (4, .int v4_5)]) dX9_termOf_18 (hN _ (Nat.le_of_ble_eq_true rfl)) (fun _ => rfl) (fun v5_18 => ?_)
    refine x_iload C 20 0 dX9_termOf_20 rfl ?_
    refine x_iconst C 22 dX9_termOf_22 ki_2 ?_
    refine x_icmp_ge C 23 65 dX9_termOf_23 (by decide) (fun _ => ?_) (fun _ => ?_)
    · refine x_iinct C 65 3 (-1 : Int32) (fun v3_65 => [(3, .int v3_65), (5, .int v5_18), (0, .ref (zA (Zm V) 0)), (2, .int v2), (4, .int v4_5)]) dX9_termOf_65 rfl ki_m1 (hN _ (Nat.le_of_ble_eq_true rfl)) (fun _ => rfl) (fun v3_65 => ?_)
      refine x_aload_n C 68 2 dX9_termOf_68 rfl ?_
      refine fg_pile C 69 dX9_termOf_69 ?_
      refine x_iload_n C 72 0 dX9_termOf_72 rfl ?_
      refine x_iconst C 73 dX9_termOf_73 ki_1 ?_
      refine x_isub C 74 dX9_termOf_74 ?_
      refine x_iald C 75 (Nat.le_of_ble_eq_true rfl) (km_24 V _) dX9_termOf_75 (fun _ => ?_)
      refine x_istoret C 76 (fun v6_76 => [(6, .int v6_76), (3, .int v3_65), (5, .int v5_18), (0, .ref (zA (Zm V) 0)), (2, .int v2), (4, .int v4_5)]) dX9_termOf_76 (hN _ (Nat.le_of_ble_eq_true rfl)) (fun _ => rfl) (fun v6_76 => ?_)
      refine x_aload_n C 78 3 dX9_termOf_78 rfl ?_
      refine fg_pile C 79 dX9_termOf_79 ?_
      refine x_iload_n C 82 1 dX9_termOf_82 rfl ?_
      refine x_iald C 83 (Nat.le_of_ble_eq_true rfl) (km_24 V _) dX9_termOf_83 (fun _ => ?_)
      refine x_istoret C 84 (fun v7_84 => [(7, .int v7_84), (6, .int v6_76), (3, .int v3_65), (5, .int v5_18), (0, .ref (zA (Zm V) 0)), (2, .int v2), (4, .int v4_5)]) dX9_termOf_84 (hN _ (Nat.le_of_ble_eq_true rfl)) (fun _ => rfl) (fun v7_84 => ?_)
      refine x_iload C 86 3 dX9_termOf_86 rfl ?_
      refine x_iconst C 88 dX9_termOf_88 ki_5 ?_
      have hJ104 : ∀ (σ_104 : Wd) (v3_104 : Int32) (v4_104 : Int32) (v5_104 : Int32) (v6_104 : Int32) (v7_104 : Int32), Y K (Zm V) (M_X9_termOf_J104 σ_104 v2 v3_104 v4_104 v5_104 v6_104 v7_104) E5 σ_104 104 [(0, .ref (zA (Zm V) 0)), (2, .int v2), (3, .int v3_104), (4, .int v4_104), (5, .int v5_104), (6, .int v6_104), (7, .int v7_104)] [] := by
        intro σ_104 v3_104 v4_104 v5_104 v6_104 v7_104
        unfold M_X9_termOf_J104
        refine x_aload_n C 104 0 dX9_termOf_104 rfl ?_
        refine fg_pile C 105 dX9_termOf_105 ?_
        refine x_iload_n C 108 2 dX9_termOf_108 rfl ?_
        refine x_iconst C 109 dX9_termOf_109 ki_1 ?_
        refine x_isub C 110 dX9_termOf_110 ?_
        refine x_iload C 111 4 dX9_termOf_111 rfl ?_
        refine x_iconst C 113 dX9_termOf_113 ki_2 ?_
        have hJ158 : ∀ (σ_158 : Wd) (v3_158 : Int32) (v4_158 : Int32) (t0_158 : Int32) (t1_158 : Int32), Y K (Zm V) (M_X9_termOf_J158 σ_158 v2 v3_158 v4_158 t0_158 t1_158) E5 σ_158 158 [(0, .ref (zA (Zm V) 0)), (2, .int v2), (3, .int v3_158), (4, .int v4_158)] [.int t0_158, .int t1_158, .ref (zA (Zm V) 24)] := by
          intro σ_158 v3_158 v4_158 t0_158 t1_158
          unfold M_X9_termOf_J158
          refine x_iast C 158 (Nat.le_of_ble_eq_true rfl) (km_24 V) dX9_termOf_158 (fun _ s_158 => ?_)
          refine x_iinct C 159 3 (1 : Int32) (fun v4_159 => [(4, .int v4_159), (0, .ref (zA (Zm V) 0)), (2, .int v2), (3, .int v3_158)]) dX9_termOf_159 rfl ki_1 (hN _ (Nat.le_of_ble_eq_true rfl)) (fun _ => rfl) (fun v4_159 => ?_)
          refine x_goto C 162 5 dX9_termOf_162 (by decide) ?_
          refine Y_sub [1, 2, 3, 0] rfl ?_
          exact x_back (v3_158, v4_159, s_158) (hb5 (v3_158, v4_159, s_158))
        refine x_icmp_ne C 114 125 dX9_termOf_114 (by decide) (fun _ => ?_) (fun _ => ?_)
        · refine x_iload C 125 4 dX9_termOf_125 rfl ?_
          refine x_iconst C 127 dX9_termOf_127 ki_3 ?_
          refine x_icmp_ne C 128 139 dX9_termOf_128 (by decide) (fun _ => ?_) (fun _ => ?_)
          · refine x_iload C 139 4 dX9_termOf_139 rfl ?_
            refine x_iconst C 141 dX9_termOf_141 ki_4 ?_
            refine x_icmp_ne C 142 153 dX9_termOf_142 (by decide) (fun _ => ?_) (fun _ => ?_)
            · refine x_iload C 153 5 dX9_termOf_153 rfl ?_
              refine x_iload C 155 6 dX9_termOf_155 rfl ?_
              refine Y_chk (fun q157 => ?_)
              refine x_idiv C 157 dX9_termOf_157 q157 ?_
              refine Y_sub [0, 1, 2, 3] rfl ?_
              exact hJ158 _ _ _ _ _
            · refine x_iload C 145 5 dX9_termOf_145 rfl ?_
              refine x_iload C 147 6 dX9_termOf_147 rfl ?_
              refine x_imul C 149 dX9_termOf_149 ?_
              refine x_goto C 150 158 dX9_termOf_150 (by decide) ?_
              refine Y_sub [0, 1, 2, 3] rfl ?_
              exact hJ158 _ _ _ _ _
          · refine x_iload C 131 5 dX9_termOf_131 rfl ?_
            refine x_iload C 133 6 dX9_termOf_133 rfl ?_
            refine x_isub C 135 dX9_termOf_135 ?_
            refine x_goto C 136 158 dX9_termOf_136 (by decide) ?_
            refine Y_sub [0, 1, 2, 3] rfl ?_
            exact hJ158 _ _ _ _ _
        · refine x_iload C 117 5 dX9_termOf_117 rfl ?_
          refine x_iload C 119 6 dX9_termOf_119 rfl ?_
          refine x_iadd C 121 dX9_termOf_121 ?_
          refine x_goto C 122 158 dX9_termOf_122 (by decide) ?_
          refine Y_sub [0, 1, 2, 3] rfl ?_
          exact hJ158 _ _ _ _ _
      refine x_icmp_ne C 89 104 dX9_termOf_89 (by decide) (fun _ => ?_) (fun _ => ?_)
      · refine Y_sub [4, 5, 2, 6, 3, 1, 0] rfl ?_
        exact hJ104 _ _ _ _ _ _
      · refine x_iload C 92 0 dX9_termOf_92 rfl ?_
        refine x_if_ne C 94 104 dX9_termOf_94 (by decide) (fun _ => ?_) (fun _ => ?_)
        · refine Y_sub [4, 5, 2, 6, 3, 1, 0] rfl ?_
          exact hJ104 _ _ _ _ _ _
        · refine x_exl1 hx5 s_5 ?_
          refine x_aload_n C 97 4 dX9_termOf_97 rfl ?_
          refine x_iconst C 98 dX9_termOf_98 ki_1 ?_
          refine fp_isBroken C 99 rfl rfl dX9_termOf_99 (fun s_99 => ?_)
          refine x_iconst C 102 dX9_termOf_102 ki_0 ?_
          exact x_iret2 C R 103 dX9_termOf_103
    · refine x_aload_n C 26 1 dX9_termOf_26 rfl ?_
      refine fg_pile C 27 dX9_termOf_27 ?_
      refine x_iload_n C 30 3 dX9_termOf_30 rfl ?_
      refine x_iload C 31 0 dX9_termOf_31 rfl ?_
      have hJ58 : ∀ (σ_58 : Wd) (v3_58 : Int32) (v4_58 : Int32) (t0_58 : Int32) (t1_58 : Int32), Y K (Zm V) (M_X9_termOf_J58 σ_58 v2 v3_58 v4_58 t0_58 t1_58) E5 σ_58 58 [(0, .ref (zA (Zm V) 0)), (2, .int v2), (3, .int v3_58), (4, .int v4_58)] [.int t0_58, .int t1_58, .ref (zA (Zm V) 24)] := by
        intro σ_58 v3_58 v4_58 t0_58 t1_58
        unfold M_X9_termOf_J58
        refine x_iast C 58 (Nat.le_of_ble_eq_true rfl) (km_24 V) dX9_termOf_58 (fun _ s_58 => ?_)
        refine x_iinct C 59 2 (1 : Int32) (fun v3_59 => [(3, .int v3_59), (0, .ref (zA (Zm V) 0)), (2, .int v2), (4, .int v4_58)]) dX9_termOf_59 rfl ki_1 (hN _ (Nat.le_of_ble_eq_true rfl)) (fun _ => rfl) (fun v3_59 => ?_)
        refine x_goto C 62 159 dX9_termOf_62 (by decide) ?_
        refine x_iinct C 159 3 (1 : Int32) (fun v4_159 => [(4, .int v4_159), (3, .int v3_59), (0, .ref (zA (Zm V) 0)), (2, .int v2)]) dX9_termOf_159 rfl ki_1 (hN _ (Nat.le_of_ble_eq_true rfl)) (fun _ => rfl) (fun v4_159 => ?_)
        refine x_goto C 162 5 dX9_termOf_162 (by decide) ?_
        refine Y_sub [2, 3, 1, 0] rfl ?_
        exact x_back (v3_59, v4_159, s_58) (hb5 (v3_59, v4_159, s_58))
      refine x_if_ne C 33 46 dX9_termOf_33 (by decide) (fun _ => ?_) (fun _ => ?_)
      · refine x_aload_n C 46 1 dX9_termOf_46 rfl ?_
        refine fg_variables C 47 dX9_termOf_47 ?_
        refine x_aload_n C 50 1 dX9_termOf_50 rfl ?_
        refine fg_codeInt C 51 dX9_termOf_51 ?_
        refine x_iload C 54 4 dX9_termOf_54 rfl ?_
        refine x_iald C 56 (Nat.le_of_ble_eq_true rfl) (km_21 V _) dX9_termOf_56 (fun _ => ?_)
        refine x_iald C 57 (Nat.le_of_ble_eq_true rfl) (km_23 V _) dX9_termOf_57 (fun _ => ?_)
        refine Y_sub [1, 2, 3, 4] rfl ?_
        exact hJ58 _ _ _ _ _
      · refine x_aload_n C 36 1 dX9_termOf_36 rfl ?_
        refine fg_codeInt C 37 dX9_termOf_37 ?_
        refine x_iload C 40 4 dX9_termOf_40 rfl ?_
        refine x_iald C 42 (Nat.le_of_ble_eq_true rfl) (km_21 V _) dX9_termOf_42 (fun _ => ?_)
        refine x_goto C 43 58 dX9_termOf_43 (by decide) ?_
        refine Y_sub [1, 2, 3, 4] rfl ?_
        exact hJ58 _ _ _ _ _
def M_X9_in (v0 : Int32) (v1 : Int32) (v2 : Int32) : Option Int32 :=
  if v0 < v1 then (some (0 : Int32)) else (if v2 < v0 then (some (0 : Int32)) else (some (1 : Int32)))
set_option maxRecDepth 100000 in
set_option maxHeartbeats 4000000 in
theorem c_X9_in (V : Vt) (l : Launch) (σ : Wd) (v0 : Int32) (v1 : Int32) (v2 : Int32) {r : Int32} (h : M_X9_in v0 v1 v2 = some r) : Ct l (Zm V) yX9_in cX9_in 3 (some .boolean) 0 0 [.int v0, .int v1, .int v2] σ (some (.int r)) σ := by
  refine Ct_intro (own := RX9) zm_ok (by decide +kernel) rfl (Nat.le_of_ble_eq_true rfl) [(0, .int v0), (1, .int v1), (2, .int v2)] rfl (fun K C R hKl hnL => ?_)
  have hN := nl_of hnL
  subst hKl
  refine Y_end h ?_
  unfold M_X9_in
  refine x_iload_n C 0 0 dX9_in_0 rfl ?_
  refine x_iload_n C 1 1 dX9_in_1 rfl ?_
  refine x_icmp_lt C 2 14 dX9_in_2 (by decide) (fun _ => ?_) (fun _ => ?_)
  · refine x_iconst C 14 dX9_in_14 ki_0 ?_
    exact x_zret1 C R 15 (zb_nar (r := (0 : Int32)) (Or.inl rfl)) dX9_in_15
  · refine x_iload_n C 5 0 dX9_in_5 rfl ?_
    refine x_iload_n C 6 2 dX9_in_6 rfl ?_
    refine x_icmp_gt C 7 14 dX9_in_7 (by decide) (fun _ => ?_) (fun _ => ?_)
    · refine x_iconst C 14 dX9_in_14 ki_0 ?_
      exact x_zret1 C R 15 (zb_nar (r := (0 : Int32)) (Or.inl rfl)) dX9_in_15
    · refine x_iconst C 10 dX9_in_10 ki_1 ?_
      refine x_goto C 11 15 dX9_in_11 (by decide) ?_
      exact x_zret1 C R 15 (zb_nar (r := (1 : Int32)) (Or.inr rfl)) dX9_in_15
def M_X9_isCopy (σ : Wd) (v1 : Int32) : Option Int32 :=
  chk (ib (gI σ 0 18) 2) (bnd1 (M_X9_in v1 (0 : Int32) ((gI σ 10 (ix (gI σ 0 18))) - (1 : Int32))) fun r13 => chk (zb r13) (some r13))
set_option maxRecDepth 100000 in
set_option maxHeartbeats 4000000 in
theorem c_X9_isCopy (V : Vt) (l : Launch) (σ : Wd) (v1 : Int32) {r : Int32} (h : M_X9_isCopy σ v1 = some r) : Ct l (Zm V) yX9_isCopy cX9_isCopy 2 (some .boolean) 1 22 [.ref (zA (Zm V) 0), .int v1] σ (some (.int r)) σ := by
  refine Ct_intro (own := RX9) zm_ok (by decide +kernel) rfl (Nat.le_of_ble_eq_true rfl) [(0, .ref (zA (Zm V) 0)), (1, .int v1)] rfl (fun K C R hKl hnL => ?_)
  have hN := nl_of hnL
  subst hKl
  refine Y_end h ?_
  unfold M_X9_isCopy
  refine x_iload_n C 0 1 dX9_isCopy_0 rfl ?_
  refine x_iconst C 1 dX9_isCopy_1 ki_0 ?_
  refine x_aload_n C 2 0 dX9_isCopy_2 rfl ?_
  refine fg_copies C 3 dX9_isCopy_3 ?_
  refine x_aload_n C 6 0 dX9_isCopy_6 rfl ?_
  refine fg_live C 7 dX9_isCopy_7 ?_
  refine x_iald C 10 (Nat.le_of_ble_eq_true rfl) (km_10 V _) dX9_isCopy_10 (fun _ => ?_)
  refine x_iconst C 11 dX9_isCopy_11 ki_1 ?_
  refine x_isub C 12 dX9_isCopy_12 ?_
  refine Y_bnd1 (fun r13 h13 => ?_)
  refine x_callSi C 13 [.int v1, .int (0 : Int32), .int ((gI σ 10 (ix (gI σ 0 18))) - (1 : Int32))] [] rfl tw_1572 ms_X9_in (Nat.le_of_ble_eq_true rfl) (Nat.le_of_ble_eq_true rfl) (Nat.le_of_ble_eq_true rfl) dX9_isCopy_13 (c_X9_in V _ _ _ _ _ h13) ?_
  refine Y_chk (fun hzb => ?_)
  exact x_zret1 C R 16 (hz01 := zb_nar hzb) dX9_isCopy_16
def M_X9_isCell (σ : Wd) (v1 : Int32) : Option Int32 :=
  chk (ib (gI σ 0 18) 2) (bnd1 (M_X9_in v1 (0 : Int32) ((gI σ 12 (ix (gI σ 0 18))) - (1 : Int32))) fun r13 => chk (zb r13) (some r13))
set_option maxRecDepth 100000 in
set_option maxHeartbeats 4000000 in
theorem c_X9_isCell (V : Vt) (l : Launch) (σ : Wd) (v1 : Int32) {r : Int32} (h : M_X9_isCell σ v1 = some r) : Ct l (Zm V) yX9_isCell cX9_isCell 2 (some .boolean) 1 22 [.ref (zA (Zm V) 0), .int v1] σ (some (.int r)) σ := by
  refine Ct_intro (own := RX9) zm_ok (by decide +kernel) rfl (Nat.le_of_ble_eq_true rfl) [(0, .ref (zA (Zm V) 0)), (1, .int v1)] rfl (fun K C R hKl hnL => ?_)
  have hN := nl_of hnL
  subst hKl
  refine Y_end h ?_
  unfold M_X9_isCell
  refine x_iload_n C 0 1 dX9_isCell_0 rfl ?_
  refine x_iconst C 1 dX9_isCell_1 ki_0 ?_
  refine x_aload_n C 2 0 dX9_isCell_2 rfl ?_
  refine fg_cells C 3 dX9_isCell_3 ?_
  refine x_aload_n C 6 0 dX9_isCell_6 rfl ?_
  refine fg_live C 7 dX9_isCell_7 ?_
  refine x_iald C 10 (Nat.le_of_ble_eq_true rfl) (km_12 V _) dX9_isCell_10 (fun _ => ?_)
  refine x_iconst C 11 dX9_isCell_11 ki_1 ?_
  refine x_isub C 12 dX9_isCell_12 ?_
  refine Y_bnd1 (fun r13 h13 => ?_)
  refine x_callSi C 13 [.int v1, .int (0 : Int32), .int ((gI σ 12 (ix (gI σ 0 18))) - (1 : Int32))] [] rfl tw_1572 ms_X9_in (Nat.le_of_ble_eq_true rfl) (Nat.le_of_ble_eq_true rfl) (Nat.le_of_ble_eq_true rfl) dX9_isCell_13 (c_X9_in V _ _ _ _ _ h13) ?_
  refine Y_chk (fun hzb => ?_)
  exact x_zret1 C R 16 (hz01 := zb_nar hzb) dX9_isCell_16
def M_X9_isSession (v0 : Int32) : Option Int32 :=
  bnd1 (M_X9_in v0 (0 : Int32) (3 : Int32)) fun r3 => chk (zb r3) (some r3)
set_option maxRecDepth 100000 in
set_option maxHeartbeats 4000000 in
theorem c_X9_isSession (V : Vt) (l : Launch) (σ : Wd) (v0 : Int32) {r : Int32} (h : M_X9_isSession v0 = some r) : Ct l (Zm V) yX9_isSession cX9_isSession 1 (some .boolean) 1 22 [.int v0] σ (some (.int r)) σ := by
  refine Ct_intro (own := RX9) zm_ok (by decide +kernel) rfl (Nat.le_of_ble_eq_true rfl) [(0, .int v0)] rfl (fun K C R hKl hnL => ?_)
  have hN := nl_of hnL
  subst hKl
  refine Y_end h ?_
  unfold M_X9_isSession
  refine x_iload_n C 0 0 dX9_isSession_0 rfl ?_
  refine x_iconst C 1 dX9_isSession_1 ki_0 ?_
  refine x_iconst C 2 dX9_isSession_2 ki_3 ?_
  refine Y_bnd1 (fun r3 h3 => ?_)
  refine x_callSi C 3 [.int v0, .int (0 : Int32), .int (3 : Int32)] [] rfl tw_1572 ms_X9_in (Nat.le_of_ble_eq_true rfl) (Nat.le_of_ble_eq_true rfl) (Nat.le_of_ble_eq_true rfl) dX9_isSession_3 (c_X9_in V _ _ _ _ _ h3) ?_
  refine Y_chk (fun hzb => ?_)
  exact x_zret1 C R 6 (hz01 := zb_nar hzb) dX9_isSession_6
def M_X9_isWrite (σ : Wd) (v1 : Int32) : Option Int32 :=
  chk (ib (0 : Int32) 770) (bnd1 (M_X9_in v1 (0 : Int32) ((gI σ 25 (ix (0 : Int32))) - (1 : Int32))) fun r10 => chk (zb r10) (some r10))
set_option maxRecDepth 100000 in
set_option maxHeartbeats 4000000 in
theorem c_X9_isWrite (V : Vt) (l : Launch) (σ : Wd) (v1 : Int32) {r : Int32} (h : M_X9_isWrite σ v1 = some r) : Ct l (Zm V) yX9_isWrite cX9_isWrite 2 (some .boolean) 1 22 [.ref (zA (Zm V) 0), .int v1] σ (some (.int r)) σ := by
  refine Ct_intro (own := RX9) zm_ok (by decide +kernel) rfl (Nat.le_of_ble_eq_true rfl) [(0, .ref (zA (Zm V) 0)), (1, .int v1)] rfl (fun K C R hKl hnL => ?_)
  have hN := nl_of hnL
  subst hKl
  refine Y_end h ?_
  unfold M_X9_isWrite
  refine x_iload_n C 0 1 dX9_isWrite_0 rfl ?_
  refine x_iconst C 1 dX9_isWrite_1 ki_0 ?_
  refine x_aload_n C 2 0 dX9_isWrite_2 rfl ?_
  refine fg_now C 3 dX9_isWrite_3 ?_
  refine x_iconst C 6 dX9_isWrite_6 ki_0 ?_
  refine x_iald C 7 (Nat.le_of_ble_eq_true rfl) (km_25 V _) dX9_isWrite_7 (fun _ => ?_)
  refine x_iconst C 8 dX9_isWrite_8 ki_1 ?_
  refine x_isub C 9 dX9_isWrite_9 ?_
  refine Y_bnd1 (fun r10 h10 => ?_)
  refine x_callSi C 10 [.int v1, .int (0 : Int32), .int ((gI σ 25 (ix (0 : Int32))) - (1 : Int32))] [] rfl tw_1572 ms_X9_in (Nat.le_of_ble_eq_true rfl) (Nat.le_of_ble_eq_true rfl) (Nat.le_of_ble_eq_true rfl) dX9_isWrite_10 (c_X9_in V _ _ _ _ _ h10) ?_
  refine Y_chk (fun hzb => ?_)
  exact x_zret1 C R 13 (hz01 := zb_nar hzb) dX9_isWrite_13
def M_X9_copiesNow_L2 (v1 : Int32) (σ : Wd) : Option ((Int32 × Wd) ⊕ (Wd)) :=
  if (770 : Int32) ≤ v1 then (some (.inr σ)) else (chk (ib v1 770) (chk (ib v1 770) (lt (uI σ 26 (ix v1) (gI σ 25 (ix v1))) fun s_20 => lt (v1 + (1 : Int32)) fun v1_21 => some (.inl (v1_21, s_20)))))
def M_X9_copiesNow (σ : Wd) : Option Wd :=
  bnd1 (iter (fun s : Int32 × Wd => M_X9_copiesNow_L2 s.1 s.2) FU ((0 : Int32), σ)) (un1 fun sx_2 => (chk (ib (gI sx_2 0 18) 2) (lt (uI sx_2 0 43 (gI sx_2 19 (ix (gI sx_2 0 18)))) fun s_37 => some s_37)))
set_option maxRecDepth 100000 in
set_option maxHeartbeats 4000000 in
theorem c_X9_copiesNow (V : Vt) (l : Launch) (σ : Wd) {σ2 : Wd} (h : M_X9_copiesNow σ = some σ2) : Ct l (Zm V) yX9_copiesNow cX9_copiesNow 2 none 0 0 [.ref (zA (Zm V) 0)] σ none σ2 := by
  refine Ct_intro (own := RX9) zm_ok (by decide +kernel) rfl (Nat.le_of_ble_eq_true rfl) [(0, .ref (zA (Zm V) 0))] rfl (fun K C R hKl hnL => ?_)
  have hN := nl_of hnL
  subst hKl
  refine Y_end h ?_
  unfold M_X9_copiesNow
  refine x_iconst C 0 dX9_copiesNow_0 ki_0 ?_
  refine x_istore_n C 1 (L' := [(1, .int (0 : Int32)), (0, .ref (zA (Zm V) 0))]) dX9_copiesNow_1 rfl (hN _ (Nat.le_of_ble_eq_true rfl)) rfl ?_
  refine Y_sub [1, 0] rfl ?_
  refine x_loop 2 (fun s : Int32 × Wd => s.2) (fun s : Int32 × Wd => [(0, .ref (zA (Zm V) 0)), (1, .int s.1)]) (fun E2 hb2 hx2 s => ?_) FU ((0 : Int32), σ)
  obtain ⟨v1_2, s_2⟩ := s
  show Y K (Zm V) (M_X9_copiesNow_L2 v1_2 s_2) E2 s_2 2 [(0, .ref (zA (Zm V) 0)), (1, .int v1_2)] []
  unfold M_X9_copiesNow_L2
  refine x_iload_n C 2 1 dX9_copiesNow_2 rfl ?_
  refine x_sipush C 3 dX9_copiesNow_3 ks_770 ?_
  refine x_icmp_ge C 6 27 dX9_copiesNow_6 (by decide) (fun _ => ?_) (fun _ => ?_)
  · refine x_ex1 hx2 s_2 ?_
    refine x_aload_n C 27 0 dX9_copiesNow_27 rfl ?_
    refine x_aload_n C 28 0 dX9_copiesNow_28 rfl ?_
    refine fg_seed C 29 dX9_copiesNow_29 ?_
    refine x_aload_n C 32 0 dX9_copiesNow_32 rfl ?_
    refine fg_live C 33 dX9_copiesNow_33 ?_
    refine x_iald C 36 (Nat.le_of_ble_eq_true rfl) (km_19 V _) dX9_copiesNow_36 (fun _ => ?_)
    refine fp_lots C 37 dX9_copiesNow_37 (fun s_37 => ?_)
    exact x_vret C R 40 dX9_copiesNow_40
  · refine x_aload_n C 9 0 dX9_copiesNow_9 rfl ?_
    refine fg_row C 10 dX9_copiesNow_10 ?_
    refine x_iload_n C 13 1 dX9_copiesNow_13 rfl ?_
    refine x_aload_n C 14 0 dX9_copiesNow_14 rfl ?_
    refine fg_now C 15 dX9_copiesNow_15 ?_
    refine x_iload_n C 18 1 dX9_copiesNow_18 rfl ?_
    refine x_iald C 19 (Nat.le_of_ble_eq_true rfl) (km_25 V _) dX9_copiesNow_19 (fun _ => ?_)
    refine x_iast C 20 (Nat.le_of_ble_eq_true rfl) (km_26 V) dX9_copiesNow_20 (fun _ s_20 => ?_)
    refine x_iinct C 21 1 (1 : Int32) (fun v1_21 => [(1, .int v1_21), (0, .ref (zA (Zm V) 0))]) dX9_copiesNow_21 rfl ki_1 (hN _ (Nat.le_of_ble_eq_true rfl)) (fun _ => rfl) (fun v1_21 => ?_)
    refine x_goto C 24 2 dX9_copiesNow_24 (by decide) ?_
    refine Y_sub [1, 0] rfl ?_
    exact x_back (v1_21, s_20) (hb2 (v1_21, s_20))
def M_X9_mixed (v0 : Int32) (v1 : Int32) : Option Int32 :=
  lt (((v0 ^^^ v1) * (1103515245 : Int32)) + (12345 : Int32)) fun v2_11 => some (v2_11 ^^^ ((v2_11.toUInt32 >>> ((15 : Int32).toUInt32 &&& Int32.toUInt32 31)).toInt32))
set_option maxRecDepth 100000 in
set_option maxHeartbeats 4000000 in
theorem c_X9_mixed (V : Vt) (l : Launch) (σ : Wd) (v0 : Int32) (v1 : Int32) {r : Int32} (h : M_X9_mixed v0 v1 = some r) : Ct l (Zm V) yX9_mixed cX9_mixed 3 (some .int) 0 0 [.int v0, .int v1] σ (some (.int r)) σ := by
  refine Ct_intro (own := RX9) zm_ok (by decide +kernel) rfl (Nat.le_of_ble_eq_true rfl) [(0, .int v0), (1, .int v1)] rfl (fun K C R hKl hnL => ?_)
  have hN := nl_of hnL
  subst hKl
  refine Y_end h ?_
  unfold M_X9_mixed
  refine x_iload_n C 0 0 dX9_mixed_0 rfl ?_
  refine x_iload_n C 1 1 dX9_mixed_1 rfl ?_
  refine x_ixor C 2 dX9_mixed_2 ?_
  refine x_ldcw C 3 (hw := tw_1749) dX9_mixed_3 ?_
  refine x_imul C 6 dX9_mixed_6 ?_
  refine x_sipush C 7 dX9_mixed_7 ks_12345 ?_
  refine x_iadd C 10 dX9_mixed_10 ?_
  refine x_istore_nt C 11 (fun v2_11 => [(2, .int v2_11), (0, .int v0), (1, .int v1)]) dX9_mixed_11 rfl (hN _ (Nat.le_of_ble_eq_true rfl)) (fun _ => rfl) (fun v2_11 => ?_)
  refine x_iload_n C 12 0 dX9_mixed_12 rfl ?_
  refine x_iload_n C 13 0 dX9_mixed_13 rfl ?_
  refine x_bipush C 14 dX9_mixed_14 kb_15 ?_
  refine x_iushr C 16 dX9_mixed_16 ?_
  refine x_ixor C 17 dX9_mixed_17 ?_
  exact x_iret1 C R 18 dX9_mixed_18
def M_X9_lotOf (σ : Wd) (v1 : Int32) (v2 : Int32) : Option Int32 :=
  bnd1 (M_X9_mixed (gI σ 0 43) (223 : Int32)) fun r7 => bnd1 (M_X9_mixed r7 v1) fun r11 => chk (¬ v2 = 0) (some (((r11.toUInt32 >>> ((1 : Int32).toUInt32 &&& Int32.toUInt32 31)).toInt32) - ((r11.toUInt32 >>> ((1 : Int32).toUInt32 &&& Int32.toUInt32 31)).toInt32) / v2 * v2))
set_option maxRecDepth 100000 in
set_option maxHeartbeats 4000000 in
theorem c_X9_lotOf (V : Vt) (l : Launch) (σ : Wd) (v1 : Int32) (v2 : Int32) {r : Int32} (h : M_X9_lotOf σ v1 v2 = some r) : Ct l (Zm V) yX9_lotOf cX9_lotOf 3 (some .int) 1 22 [.ref (zA (Zm V) 0), .int v1, .int v2] σ (some (.int r)) σ := by
  refine Ct_intro (own := RX9) zm_ok (by decide +kernel) rfl (Nat.le_of_ble_eq_true rfl) [(0, .ref (zA (Zm V) 0)), (1, .int v1), (2, .int v2)] rfl (fun K C R hKl hnL => ?_)
  have hN := nl_of hnL
  subst hKl
  refine Y_end h ?_
  unfold M_X9_lotOf
  refine x_aload_n C 0 0 dX9_lotOf_0 rfl ?_
  refine fg_lots C 1 dX9_lotOf_1 ?_
  refine x_sipush C 4 dX9_lotOf_4 ks_223 ?_
  refine Y_bnd1 (fun r7 h7 => ?_)
  refine x_callSi C 7 [.int (gI σ 0 43), .int (223 : Int32)] [] rfl tw_1746 ms_X9_mixed (Nat.le_of_ble_eq_true rfl) (Nat.le_of_ble_eq_true rfl) (Nat.le_of_ble_eq_true rfl) dX9_lotOf_7 (c_X9_mixed V _ _ _ _ h7) ?_
  refine x_iload_n C 10 1 dX9_lotOf_10 rfl ?_
  refine Y_bnd1 (fun r11 h11 => ?_)
  refine x_callSi C 11 [.int r7, .int v1] [] rfl tw_1746 ms_X9_mixed (Nat.le_of_ble_eq_true rfl) (Nat.le_of_ble_eq_true rfl) (Nat.le_of_ble_eq_true rfl) dX9_lotOf_11 (c_X9_mixed V _ _ _ _ h11) ?_
  refine x_iconst C 14 dX9_lotOf_14 ki_1 ?_
  refine x_iushr C 15 dX9_lotOf_15 ?_
  refine x_iload_n C 16 2 dX9_lotOf_16 rfl ?_
  refine Y_chk (fun q17 => ?_)
  refine x_irem C 17 dX9_lotOf_17 q17 ?_
  exact x_iret1 C R 18 dX9_lotOf_18
def M_X9_doesHave (σ : Wd) (v1 : Int32) (v2 : Int32) : Option Int32 :=
  chk (ib (((470 : Int32) + ((60 : Int32) * v1)) + v2) 770) (if (gI σ 26 (ix (((470 : Int32) + ((60 : Int32) * v1)) + v2))) ≠ (1 : Int32) then (some (0 : Int32)) else (some (1 : Int32)))
set_option maxRecDepth 100000 in
set_option maxHeartbeats 4000000 in
theorem c_X9_doesHave (V : Vt) (l : Launch) (σ : Wd) (v1 : Int32) (v2 : Int32) {r : Int32} (h : M_X9_doesHave σ v1 v2 = some r) : Ct l (Zm V) yX9_doesHave cX9_doesHave 3 (some .boolean) 0 0 [.ref (zA (Zm V) 0), .int v1, .int v2] σ (some (.int r)) σ := by
  refine Ct_intro (own := RX9) zm_ok (by decide +kernel) rfl (Nat.le_of_ble_eq_true rfl) [(0, .ref (zA (Zm V) 0)), (1, .int v1), (2, .int v2)] rfl (fun K C R hKl hnL => ?_)
  have hN := nl_of hnL
  subst hKl
  refine Y_end h ?_
  unfold M_X9_doesHave
  refine x_aload_n C 0 0 dX9_doesHave_0 rfl ?_
  refine fg_row C 1 dX9_doesHave_1 ?_
  refine x_sipush C 4 dX9_doesHave_4 ks_470 ?_
  refine x_bipush C 7 dX9_doesHave_7 kb_60 ?_
  refine x_iload_n C 9 1 dX9_doesHave_9 rfl ?_
  refine x_imul C 10 dX9_doesHave_10 ?_
  refine x_iadd C 11 dX9_doesHave_11 ?_
  refine x_iload_n C 12 2 dX9_doesHave_12 rfl ?_
  refine x_iadd C 13 dX9_doesHave_13 ?_
  refine x_iald C 14 (Nat.le_of_ble_eq_true rfl) (km_26 V _) dX9_doesHave_14 (fun _ => ?_)
  refine x_iconst C 15 dX9_doesHave_15 ki_1 ?_
  refine x_icmp_ne C 16 23 dX9_doesHave_16 (by decide) (fun _ => ?_) (fun _ => ?_)
  · refine x_iconst C 23 dX9_doesHave_23 ki_0 ?_
    exact x_zret1 C R 24 (zb_nar (r := (0 : Int32)) (Or.inl rfl)) dX9_doesHave_24
  · refine x_iconst C 19 dX9_doesHave_19 ki_1 ?_
    refine x_goto C 20 24 dX9_doesHave_20 (by decide) ?_
    exact x_zret1 C R 24 (zb_nar (r := (1 : Int32)) (Or.inr rfl)) dX9_doesHave_24
def M_X9_ofWrite (σ : Wd) (v1 : Int32) (v2 : Int32) : Option Int32 :=
  chk (ib (((110 : Int32) + ((5 : Int32) * v1)) + v2) 770) (some (gI σ 26 (ix (((110 : Int32) + ((5 : Int32) * v1)) + v2))))
set_option maxRecDepth 100000 in
set_option maxHeartbeats 4000000 in
theorem c_X9_ofWrite (V : Vt) (l : Launch) (σ : Wd) (v1 : Int32) (v2 : Int32) {r : Int32} (h : M_X9_ofWrite σ v1 v2 = some r) : Ct l (Zm V) yX9_ofWrite cX9_ofWrite 3 (some .int) 0 0 [.ref (zA (Zm V) 0), .int v1, .int v2] σ (some (.int r)) σ := by
  refine Ct_intro (own := RX9) zm_ok (by decide +kernel) rfl (Nat.le_of_ble_eq_true rfl) [(0, .ref (zA (Zm V) 0)), (1, .int v1), (2, .int v2)] rfl (fun K C R hKl hnL => ?_)
  have hN := nl_of hnL
  subst hKl
  refine Y_end h ?_
  unfold M_X9_ofWrite
  refine x_aload_n C 0 0 dX9_ofWrite_0 rfl ?_
  refine fg_row C 1 dX9_ofWrite_1 ?_
  refine x_bipush C 4 dX9_ofWrite_4 kb_110 ?_
  refine x_iconst C 6 dX9_ofWrite_6 ki_5 ?_
  refine x_iload_n C 7 1 dX9_ofWrite_7 rfl ?_
  refine x_imul C 8 dX9_ofWrite_8 ?_
  refine x_iadd C 9 dX9_ofWrite_9 ?_
  refine x_iload_n C 10 2 dX9_ofWrite_10 rfl ?_
  refine x_iadd C 11 dX9_ofWrite_11 ?_
  refine x_iald C 12 (Nat.le_of_ble_eq_true rfl) (km_26 V _) dX9_ofWrite_12 (fun _ => ?_)
  exact x_iret1 C R 13 dX9_ofWrite_13
def M_X9_ofCopy (σ : Wd) (v1 : Int32) (v2 : Int32) : Option Int32 :=
  chk (ib (((15 : Int32) + ((6 : Int32) * v1)) + v2) 770) (some (gI σ 26 (ix (((15 : Int32) + ((6 : Int32) * v1)) + v2))))
set_option maxRecDepth 100000 in
set_option maxHeartbeats 4000000 in
theorem c_X9_ofCopy (V : Vt) (l : Launch) (σ : Wd) (v1 : Int32) (v2 : Int32) {r : Int32} (h : M_X9_ofCopy σ v1 v2 = some r) : Ct l (Zm V) yX9_ofCopy cX9_ofCopy 3 (some .int) 0 0 [.ref (zA (Zm V) 0), .int v1, .int v2] σ (some (.int r)) σ := by
  refine Ct_intro (own := RX9) zm_ok (by decide +kernel) rfl (Nat.le_of_ble_eq_true rfl) [(0, .ref (zA (Zm V) 0)), (1, .int v1), (2, .int v2)] rfl (fun K C R hKl hnL => ?_)
  have hN := nl_of hnL
  subst hKl
  refine Y_end h ?_
  unfold M_X9_ofCopy
  refine x_aload_n C 0 0 dX9_ofCopy_0 rfl ?_
  refine fg_row C 1 dX9_ofCopy_1 ?_
  refine x_bipush C 4 dX9_ofCopy_4 kb_15 ?_
  refine x_bipush C 6 dX9_ofCopy_6 kb_6 ?_
  refine x_iload_n C 8 1 dX9_ofCopy_8 rfl ?_
  refine x_imul C 9 dX9_ofCopy_9 ?_
  refine x_iadd C 10 dX9_ofCopy_10 ?_
  refine x_iload_n C 11 2 dX9_ofCopy_11 rfl ?_
  refine x_iadd C 12 dX9_ofCopy_12 ?_
  refine x_iald C 13 (Nat.le_of_ble_eq_true rfl) (km_26 V _) dX9_ofCopy_13 (fun _ => ?_)
  exact x_iret1 C R 14 dX9_ofCopy_14
def M_X9_adds (σ : Wd) (v1 : Int32) (v2 : Int32) (v3 : Int32) : Option Wd :=
  chk (ib (((15 : Int32) + ((6 : Int32) * v1)) + v2) 770) (chk (ib (((15 : Int32) + ((6 : Int32) * v1)) + v2) 770) (lt (uI σ 26 (ix (((15 : Int32) + ((6 : Int32) * v1)) + v2)) ((gI σ 26 (ix (((15 : Int32) + ((6 : Int32) * v1)) + v2))) + v3)) fun s_17 => some s_17))
set_option maxRecDepth 100000 in
set_option maxHeartbeats 4000000 in
theorem c_X9_adds (V : Vt) (l : Launch) (σ : Wd) (v1 : Int32) (v2 : Int32) (v3 : Int32) {σ2 : Wd} (h : M_X9_adds σ v1 v2 v3 = some σ2) : Ct l (Zm V) yX9_adds cX9_adds 4 none 0 0 [.ref (zA (Zm V) 0), .int v1, .int v2, .int v3] σ none σ2 := by
  refine Ct_intro (own := RX9) zm_ok (by decide +kernel) rfl (Nat.le_of_ble_eq_true rfl) [(0, .ref (zA (Zm V) 0)), (1, .int v1), (2, .int v2), (3, .int v3)] rfl (fun K C R hKl hnL => ?_)
  have hN := nl_of hnL
  subst hKl
  refine Y_end h ?_
  unfold M_X9_adds
  refine x_aload_n C 0 0 dX9_adds_0 rfl ?_
  refine fg_row C 1 dX9_adds_1 ?_
  refine x_bipush C 4 dX9_adds_4 kb_15 ?_
  refine x_bipush C 6 dX9_adds_6 kb_6 ?_
  refine x_iload_n C 8 1 dX9_adds_8 rfl ?_
  refine x_imul C 9 dX9_adds_9 ?_
  refine x_iadd C 10 dX9_adds_10 ?_
  refine x_iload_n C 11 2 dX9_adds_11 rfl ?_
  refine x_iadd C 12 dX9_adds_12 ?_
  refine x_dup2 C 13 dX9_adds_13 rfl rfl ?_
  refine x_iald C 14 (Nat.le_of_ble_eq_true rfl) (km_26 V _) dX9_adds_14 (fun _ => ?_)
  refine x_iload_n C 15 3 dX9_adds_15 rfl ?_
  refine x_iadd C 16 dX9_adds_16 ?_
  refine x_iast C 17 (Nat.le_of_ble_eq_true rfl) (km_26 V) dX9_adds_17 (fun _ s_17 => ?_)
  exact x_vret C R 18 dX9_adds_18
def M_X9_vectorOf_L5 (σ : Wd) (v1 : Int32) (v2 : Int32) (v3 : Int32) (v4 : Int32) : Option ((Int32 × Int32) ⊕ (Int32)) :=
  chk (ib (0 : Int32) 770) (if (gI σ 26 (ix (0 : Int32))) ≤ v4 then (some (.inr v3)) else (bnd1 (M_X9_doesHave σ v1 v4) fun r20 => if r20 = 0 then (lt (v4 + (1 : Int32)) fun v4_56 => some (.inl (v3, v4_56))) else (bnd1 (M_X9_ofWrite σ v4 (2 : Int32)) fun r30 => if r30 ≠ v2 then (lt (v4 + (1 : Int32)) fun v4_56 => some (.inl (v3, v4_56))) else (bnd1 (M_X9_ofWrite σ v4 (3 : Int32)) fun r41 => if r41 ≤ v3 then (lt (v4 + (1 : Int32)) fun v4_56 => some (.inl (v3, v4_56))) else (bnd1 (M_X9_ofWrite σ v4 (3 : Int32)) fun r52 => lt (v4 + (1 : Int32)) fun v4_56 => some (.inl (r52, v4_56)))))))
def M_X9_vectorOf (σ : Wd) (v1 : Int32) (v2 : Int32) : Option Int32 :=
  bnd1 (iter (fun s : Int32 × Int32 => M_X9_vectorOf_L5 σ v1 v2 s.1 s.2) FU ((0 : Int32), (0 : Int32))) (un1 fun x3_5 => (some x3_5))
set_option maxRecDepth 100000 in
set_option maxHeartbeats 4000000 in
theorem c_X9_vectorOf (V : Vt) (l : Launch) (σ : Wd) (v1 : Int32) (v2 : Int32) {r : Int32} (h : M_X9_vectorOf σ v1 v2 = some r) : Ct l (Zm V) yX9_vectorOf cX9_vectorOf 5 (some .int) 1 22 [.ref (zA (Zm V) 0), .int v1, .int v2] σ (some (.int r)) σ := by
  refine Ct_intro (own := RX9) zm_ok (by decide +kernel) rfl (Nat.le_of_ble_eq_true rfl) [(0, .ref (zA (Zm V) 0)), (1, .int v1), (2, .int v2)] rfl (fun K C R hKl hnL => ?_)
  have hN := nl_of hnL
  subst hKl
  refine Y_end h ?_
  unfold M_X9_vectorOf
  refine x_iconst C 0 dX9_vectorOf_0 ki_0 ?_
  refine x_istore_n C 1 (L' := [(3, .int (0 : Int32)), (0, .ref (zA (Zm V) 0)), (1, .int v1), (2, .int v2)]) dX9_vectorOf_1 rfl (hN _ (Nat.le_of_ble_eq_true rfl)) rfl ?_
  refine x_iconst C 2 dX9_vectorOf_2 ki_0 ?_
  refine x_istore C 3 (L' := [(4, .int (0 : Int32)), (3, .int (0 : Int32)), (0, .ref (zA (Zm V) 0)), (1, .int v1), (2, .int v2)]) dX9_vectorOf_3 (hN _ (Nat.le_of_ble_eq_true rfl)) rfl ?_
  refine Y_sub [2, 3, 4, 1, 0] rfl ?_
  refine x_loop 5 (fun s : Int32 × Int32 => σ) (fun s : Int32 × Int32 => [(0, .ref (zA (Zm V) 0)), (1, .int v1), (2, .int v2), (3, .int s.1), (4, .int s.2)]) (fun E5 hb5 hx5 s => ?_) FU ((0 : Int32), (0 : Int32))
  obtain ⟨v3_5, v4_5⟩ := s
  show Y K (Zm V) (M_X9_vectorOf_L5 σ v1 v2 v3_5 v4_5) E5 σ 5 [(0, .ref (zA (Zm V) 0)), (1, .int v1), (2, .int v2), (3, .int v3_5), (4, .int v4_5)] []
  unfold M_X9_vectorOf_L5
  refine x_iload C 5 4 dX9_vectorOf_5 rfl ?_
  refine x_aload_n C 7 0 dX9_vectorOf_7 rfl ?_
  refine fg_row C 8 dX9_vectorOf_8 ?_
  refine x_iconst C 11 dX9_vectorOf_11 ki_0 ?_
  refine x_iald C 12 (Nat.le_of_ble_eq_true rfl) (km_26 V _) dX9_vectorOf_12 (fun _ => ?_)
  refine x_icmp_ge C 13 62 dX9_vectorOf_13 (by decide) (fun _ => ?_) (fun _ => ?_)
  · refine x_ex1 hx5 v3_5 ?_
    refine x_iload_n C 62 3 dX9_vectorOf_62 rfl ?_
    exact x_iret1 C R 63 dX9_vectorOf_63
  · refine x_aload_n C 16 0 dX9_vectorOf_16 rfl ?_
    refine x_iload_n C 17 1 dX9_vectorOf_17 rfl ?_
    refine x_iload C 18 4 dX9_vectorOf_18 rfl ?_
    refine Y_bnd1 (fun r20 h20 => ?_)
    refine x_callVi C 20 [.int v1, .int v4_5] [] rfl tw_1607 mv_X9_doesHave (Nat.le_of_ble_eq_true rfl) (Nat.le_of_ble_eq_true rfl) (Nat.le_of_ble_eq_true rfl) (Nat.le_of_ble_eq_true rfl) (km_0 V _) rfl dX9_vectorOf_20 (c_X9_doesHave V _ _ _ _ h20) ?_
    refine x_if_eq C 23 56 dX9_vectorOf_23 (by decide) (fun _ => ?_) (fun _ => ?_)
    · refine x_iinct C 56 4 (1 : Int32) (fun v4_56 => [(4, .int v4_56), (0, .ref (zA (Zm V) 0)), (1, .int v1), (2, .int v2), (3, .int v3_5)]) dX9_vectorOf_56 rfl ki_1 (hN _ (Nat.le_of_ble_eq_true rfl)) (fun _ => rfl) (fun v4_56 => ?_)
      refine x_goto C 59 5 dX9_vectorOf_59 (by decide) ?_
      refine Y_sub [1, 2, 3, 4, 0] rfl ?_
      exact x_back (v3_5, v4_56) (hb5 (v3_5, v4_56))
    · refine x_aload_n C 26 0 dX9_vectorOf_26 rfl ?_
      refine x_iload C 27 4 dX9_vectorOf_27 rfl ?_
      refine x_iconst C 29 dX9_vectorOf_29 ki_2 ?_
      refine Y_bnd1 (fun r30 h30 => ?_)
      refine x_callVi C 30 [.int v4_5, .int (2 : Int32)] [] rfl tw_1611 mv_X9_ofWrite (Nat.le_of_ble_eq_true rfl) (Nat.le_of_ble_eq_true rfl) (Nat.le_of_ble_eq_true rfl) (Nat.le_of_ble_eq_true rfl) (km_0 V _) rfl dX9_vectorOf_30 (c_X9_ofWrite V _ _ _ _ h30) ?_
      refine x_iload_n C 33 2 dX9_vectorOf_33 rfl ?_
      refine x_icmp_ne C 34 56 dX9_vectorOf_34 (by decide) (fun _ => ?_) (fun _ => ?_)
      · refine x_iinct C 56 4 (1 : Int32) (fun v4_56 => [(4, .int v4_56), (0, .ref (zA (Zm V) 0)), (1, .int v1), (2, .int v2), (3, .int v3_5)]) dX9_vectorOf_56 rfl ki_1 (hN _ (Nat.le_of_ble_eq_true rfl)) (fun _ => rfl) (fun v4_56 => ?_)
        refine x_goto C 59 5 dX9_vectorOf_59 (by decide) ?_
        refine Y_sub [1, 2, 3, 4, 0] rfl ?_
        exact x_back (v3_5, v4_56) (hb5 (v3_5, v4_56))
      · refine x_aload_n C 37 0 dX9_vectorOf_37 rfl ?_
        refine x_iload C 38 4 dX9_vectorOf_38 rfl ?_
        refine x_iconst C 40 dX9_vectorOf_40 ki_3 ?_
        refine Y_bnd1 (fun r41 h41 => ?_)
        refine x_callVi C 41 [.int v4_5, .int (3 : Int32)] [] rfl tw_1611 mv_X9_ofWrite (Nat.le_of_ble_eq_true rfl) (Nat.le_of_ble_eq_true rfl) (Nat.le_of_ble_eq_true rfl) (Nat.le_of_ble_eq_true rfl) (km_0 V _) rfl dX9_vectorOf_41 (c_X9_ofWrite V _ _ _ _ h41) ?_
        refine x_iload_n C 44 3 dX9_vectorOf_44 rfl ?_
        refine x_icmp_le C 45 56 dX9_vectorOf_45 (by decide) (fun _ => ?_) (fun _ => ?_)
        · refine x_iinct C 56 4 (1 : Int32) (fun v4_56 => [(4, .int v4_56), (0, .ref (zA (Zm V) 0)), (1, .int v1), (2, .int v2), (3, .int v3_5)]) dX9_vectorOf_56 rfl ki_1 (hN _ (Nat.le_of_ble_eq_true rfl)) (fun _ => rfl) (fun v4_56 => ?_)
          refine x_goto C 59 5 dX9_vectorOf_59 (by decide) ?_
          refine Y_sub [1, 2, 3, 4, 0] rfl ?_
          exact x_back (v3_5, v4_56) (hb5 (v3_5, v4_56))
        · refine x_aload_n C 48 0 dX9_vectorOf_48 rfl ?_
          refine x_iload C 49 4 dX9_vectorOf_49 rfl ?_
          refine x_iconst C 51 dX9_vectorOf_51 ki_3 ?_
          refine Y_bnd1 (fun r52 h52 => ?_)
          refine x_callVi C 52 [.int v4_5, .int (3 : Int32)] [] rfl tw_1611 mv_X9_ofWrite (Nat.le_of_ble_eq_true rfl) (Nat.le_of_ble_eq_true rfl) (Nat.le_of_ble_eq_true rfl) (Nat.le_of_ble_eq_true rfl) (km_0 V _) rfl dX9_vectorOf_52 (c_X9_ofWrite V _ _ _ _ h52) ?_
          refine x_istore_n C 55 (L' := [(3, .int r52), (0, .ref (zA (Zm V) 0)), (1, .int v1), (2, .int v2), (4, .int v4_5)]) dX9_vectorOf_55 rfl (hN _ (Nat.le_of_ble_eq_true rfl)) rfl ?_
          refine x_iinct C 56 4 (1 : Int32) (fun v4_56 => [(4, .int v4_56), (3, .int r52), (0, .ref (zA (Zm V) 0)), (1, .int v1), (2, .int v2)]) dX9_vectorOf_56 rfl ki_1 (hN _ (Nat.le_of_ble_eq_true rfl)) (fun _ => rfl) (fun v4_56 => ?_)
          refine x_goto C 59 5 dX9_vectorOf_59 (by decide) ?_
          refine Y_sub [2, 3, 4, 1, 0] rfl ?_
          exact x_back (r52, v4_56) (hb5 (r52, v4_56))
def M_X9_clockOf_L4 (σ : Wd) (v1 : Int32) (v2 : Int32) (v3 : Int32) : Option ((Int32 × Int32) ⊕ (Int32)) :=
  chk (ib (0 : Int32) 770) (if (gI σ 26 (ix (0 : Int32))) ≤ v3 then (some (.inr v2)) else (bnd1 (M_X9_doesHave σ v1 v3) fun r17 => if r17 = 0 then (lt (v3 + (1 : Int32)) fun v3_40 => some (.inl (v2, v3_40))) else (bnd1 (M_X9_ofWrite σ v3 (3 : Int32)) fun r26 => if r26 ≤ v2 then (lt (v3 + (1 : Int32)) fun v3_40 => some (.inl (v2, v3_40))) else (bnd1 (M_X9_ofWrite σ v3 (3 : Int32)) fun r36 => lt (v3 + (1 : Int32)) fun v3_40 => some (.inl (r36, v3_40))))))
def M_X9_clockOf (σ : Wd) (v1 : Int32) : Option Int32 :=
  bnd1 (iter (fun s : Int32 × Int32 => M_X9_clockOf_L4 σ v1 s.1 s.2) FU ((0 : Int32), (0 : Int32))) (un1 fun x2_4 => (some x2_4))
set_option maxRecDepth 100000 in
set_option maxHeartbeats 4000000 in
theorem c_X9_clockOf (V : Vt) (l : Launch) (σ : Wd) (v1 : Int32) {r : Int32} (h : M_X9_clockOf σ v1 = some r) : Ct l (Zm V) yX9_clockOf cX9_clockOf 4 (some .int) 1 22 [.ref (zA (Zm V) 0), .int v1] σ (some (.int r)) σ := by
  refine Ct_intro (own := RX9) zm_ok (by decide +kernel) rfl (Nat.le_of_ble_eq_true rfl) [(0, .ref (zA (Zm V) 0)), (1, .int v1)] rfl (fun K C R hKl hnL => ?_)
  have hN := nl_of hnL
  subst hKl
  refine Y_end h ?_
  unfold M_X9_clockOf
  refine x_iconst C 0 dX9_clockOf_0 ki_0 ?_
  refine x_istore_n C 1 (L' := [(2, .int (0 : Int32)), (0, .ref (zA (Zm V) 0)), (1, .int v1)]) dX9_clockOf_1 rfl (hN _ (Nat.le_of_ble_eq_true rfl)) rfl ?_
  refine x_iconst C 2 dX9_clockOf_2 ki_0 ?_
  refine x_istore_n C 3 (L' := [(3, .int (0 : Int32)), (2, .int (0 : Int32)), (0, .ref (zA (Zm V) 0)), (1, .int v1)]) dX9_clockOf_3 rfl (hN _ (Nat.le_of_ble_eq_true rfl)) rfl ?_
  refine Y_sub [2, 3, 1, 0] rfl ?_
  refine x_loop 4 (fun s : Int32 × Int32 => σ) (fun s : Int32 × Int32 => [(0, .ref (zA (Zm V) 0)), (1, .int v1), (2, .int s.1), (3, .int s.2)]) (fun E4 hb4 hx4 s => ?_) FU ((0 : Int32), (0 : Int32))
  obtain ⟨v2_4, v3_4⟩ := s
  show Y K (Zm V) (M_X9_clockOf_L4 σ v1 v2_4 v3_4) E4 σ 4 [(0, .ref (zA (Zm V) 0)), (1, .int v1), (2, .int v2_4), (3, .int v3_4)] []
  unfold M_X9_clockOf_L4
  refine x_iload_n C 4 3 dX9_clockOf_4 rfl ?_
  refine x_aload_n C 5 0 dX9_clockOf_5 rfl ?_
  refine fg_row C 6 dX9_clockOf_6 ?_
  refine x_iconst C 9 dX9_clockOf_9 ki_0 ?_
  refine x_iald C 10 (Nat.le_of_ble_eq_true rfl) (km_26 V _) dX9_clockOf_10 (fun _ => ?_)
  refine x_icmp_ge C 11 46 dX9_clockOf_11 (by decide) (fun _ => ?_) (fun _ => ?_)
  · refine x_ex1 hx4 v2_4 ?_
    refine x_iload_n C 46 2 dX9_clockOf_46 rfl ?_
    exact x_iret1 C R 47 dX9_clockOf_47
  · refine x_aload_n C 14 0 dX9_clockOf_14 rfl ?_
    refine x_iload_n C 15 1 dX9_clockOf_15 rfl ?_
    refine x_iload_n C 16 3 dX9_clockOf_16 rfl ?_
    refine Y_bnd1 (fun r17 h17 => ?_)
    refine x_callVi C 17 [.int v1, .int v3_4] [] rfl tw_1607 mv_X9_doesHave (Nat.le_of_ble_eq_true rfl) (Nat.le_of_ble_eq_true rfl) (Nat.le_of_ble_eq_true rfl) (Nat.le_of_ble_eq_true rfl) (km_0 V _) rfl dX9_clockOf_17 (c_X9_doesHave V _ _ _ _ h17) ?_
    refine x_if_eq C 20 40 dX9_clockOf_20 (by decide) (fun _ => ?_) (fun _ => ?_)
    · refine x_iinct C 40 3 (1 : Int32) (fun v3_40 => [(3, .int v3_40), (0, .ref (zA (Zm V) 0)), (1, .int v1), (2, .int v2_4)]) dX9_clockOf_40 rfl ki_1 (hN _ (Nat.le_of_ble_eq_true rfl)) (fun _ => rfl) (fun v3_40 => ?_)
      refine x_goto C 43 4 dX9_clockOf_43 (by decide) ?_
      refine Y_sub [1, 2, 3, 0] rfl ?_
      exact x_back (v2_4, v3_40) (hb4 (v2_4, v3_40))
    · refine x_aload_n C 23 0 dX9_clockOf_23 rfl ?_
      refine x_iload_n C 24 3 dX9_clockOf_24 rfl ?_
      refine x_iconst C 25 dX9_clockOf_25 ki_3 ?_
      refine Y_bnd1 (fun r26 h26 => ?_)
      refine x_callVi C 26 [.int v3_4, .int (3 : Int32)] [] rfl tw_1611 mv_X9_ofWrite (Nat.le_of_ble_eq_true rfl) (Nat.le_of_ble_eq_true rfl) (Nat.le_of_ble_eq_true rfl) (Nat.le_of_ble_eq_true rfl) (km_0 V _) rfl dX9_clockOf_26 (c_X9_ofWrite V _ _ _ _ h26) ?_
      refine x_iload_n C 29 2 dX9_clockOf_29 rfl ?_
      refine x_icmp_le C 30 40 dX9_clockOf_30 (by decide) (fun _ => ?_) (fun _ => ?_)
      · refine x_iinct C 40 3 (1 : Int32) (fun v3_40 => [(3, .int v3_40), (0, .ref (zA (Zm V) 0)), (1, .int v1), (2, .int v2_4)]) dX9_clockOf_40 rfl ki_1 (hN _ (Nat.le_of_ble_eq_true rfl)) (fun _ => rfl) (fun v3_40 => ?_)
        refine x_goto C 43 4 dX9_clockOf_43 (by decide) ?_
        refine Y_sub [1, 2, 3, 0] rfl ?_
        exact x_back (v2_4, v3_40) (hb4 (v2_4, v3_40))
      · refine x_aload_n C 33 0 dX9_clockOf_33 rfl ?_
        refine x_iload_n C 34 3 dX9_clockOf_34 rfl ?_
        refine x_iconst C 35 dX9_clockOf_35 ki_3 ?_
        refine Y_bnd1 (fun r36 h36 => ?_)
        refine x_callVi C 36 [.int v3_4, .int (3 : Int32)] [] rfl tw_1611 mv_X9_ofWrite (Nat.le_of_ble_eq_true rfl) (Nat.le_of_ble_eq_true rfl) (Nat.le_of_ble_eq_true rfl) (Nat.le_of_ble_eq_true rfl) (km_0 V _) rfl dX9_clockOf_36 (c_X9_ofWrite V _ _ _ _ h36) ?_
        refine x_istore_n C 39 (L' := [(2, .int r36), (0, .ref (zA (Zm V) 0)), (1, .int v1), (3, .int v3_4)]) dX9_clockOf_39 rfl (hN _ (Nat.le_of_ble_eq_true rfl)) rfl ?_
        refine x_iinct C 40 3 (1 : Int32) (fun v3_40 => [(3, .int v3_40), (2, .int r36), (0, .ref (zA (Zm V) 0)), (1, .int v1)]) dX9_clockOf_40 rfl ki_1 (hN _ (Nat.le_of_ble_eq_true rfl)) (fun _ => rfl) (fun v3_40 => ?_)
        refine x_goto C 43 4 dX9_clockOf_43 (by decide) ?_
        refine Y_sub [2, 3, 1, 0] rfl ?_
        exact x_back (r36, v3_40) (hb4 (r36, v3_40))
def M_X9_isAhead (σ : Wd) (v1 : Int32) (v2 : Int32) : Option Int32 :=
  bnd1 (M_X9_ofWrite σ v1 (3 : Int32)) fun r3 => bnd1 (M_X9_ofWrite σ v2 (3 : Int32)) fun r10 => if r3 < r10 then (some (1 : Int32)) else (if r3 ≠ r10 then (some (0 : Int32)) else (bnd1 (M_X9_ofWrite σ v1 (2 : Int32)) fun r30 => bnd1 (M_X9_ofWrite σ v2 (2 : Int32)) fun r36 => if r36 ≤ r30 then (some (0 : Int32)) else (some (1 : Int32))))
set_option maxRecDepth 100000 in
set_option maxHeartbeats 4000000 in
theorem c_X9_isAhead (V : Vt) (l : Launch) (σ : Wd) (v1 : Int32) (v2 : Int32) {r : Int32} (h : M_X9_isAhead σ v1 v2 = some r) : Ct l (Zm V) yX9_isAhead cX9_isAhead 5 (some .boolean) 1 22 [.ref (zA (Zm V) 0), .int v1, .int v2] σ (some (.int r)) σ := by
  refine Ct_intro (own := RX9) zm_ok (by decide +kernel) rfl (Nat.le_of_ble_eq_true rfl) [(0, .ref (zA (Zm V) 0)), (1, .int v1), (2, .int v2)] rfl (fun K C R hKl hnL => ?_)
  have hN := nl_of hnL
  subst hKl
  refine Y_end h ?_
  unfold M_X9_isAhead
  refine x_aload_n C 0 0 dX9_isAhead_0 rfl ?_
  refine x_iload_n C 1 1 dX9_isAhead_1 rfl ?_
  refine x_iconst C 2 dX9_isAhead_2 ki_3 ?_
  refine Y_bnd1 (fun r3 h3 => ?_)
  refine x_callVi C 3 [.int v1, .int (3 : Int32)] [] rfl tw_1611 mv_X9_ofWrite (Nat.le_of_ble_eq_true rfl) (Nat.le_of_ble_eq_true rfl) (Nat.le_of_ble_eq_true rfl) (Nat.le_of_ble_eq_true rfl) (km_0 V _) rfl dX9_isAhead_3 (c_X9_ofWrite V _ _ _ _ h3) ?_
  refine x_istore_n C 6 (L' := [(3, .int r3), (0, .ref (zA (Zm V) 0)), (1, .int v1), (2, .int v2)]) dX9_isAhead_6 rfl (hN _ (Nat.le_of_ble_eq_true rfl)) rfl ?_
  refine x_aload_n C 7 1 dX9_isAhead_7 rfl ?_
  refine x_iload_n C 8 3 dX9_isAhead_8 rfl ?_
  refine x_iconst C 9 dX9_isAhead_9 ki_3 ?_
  refine Y_bnd1 (fun r10 h10 => ?_)
  refine x_callVi C 10 [.int v2, .int (3 : Int32)] [] rfl tw_1611 mv_X9_ofWrite (Nat.le_of_ble_eq_true rfl) (Nat.le_of_ble_eq_true rfl) (Nat.le_of_ble_eq_true rfl) (Nat.le_of_ble_eq_true rfl) (km_0 V _) rfl dX9_isAhead_10 (c_X9_ofWrite V _ _ _ _ h10) ?_
  refine x_istore C 13 (L' := [(4, .int r10), (3, .int r3), (0, .ref (zA (Zm V) 0)), (1, .int v1), (2, .int v2)]) dX9_isAhead_13 (hN _ (Nat.le_of_ble_eq_true rfl)) rfl ?_
  refine x_iload_n C 15 1 dX9_isAhead_15 rfl ?_
  refine x_iload C 16 0 dX9_isAhead_16 rfl ?_
  refine x_icmp_lt C 18 42 dX9_isAhead_18 (by decide) (fun _ => ?_) (fun _ => ?_)
  · refine x_iconst C 42 dX9_isAhead_42 ki_1 ?_
    refine x_goto C 43 47 dX9_isAhead_43 (by decide) ?_
    exact x_zret1 C R 47 (zb_nar (r := (1 : Int32)) (Or.inr rfl)) dX9_isAhead_47
  · refine x_iload_n C 21 1 dX9_isAhead_21 rfl ?_
    refine x_iload C 22 0 dX9_isAhead_22 rfl ?_
    refine x_icmp_ne C 24 46 dX9_isAhead_24 (by decide) (fun _ => ?_) (fun _ => ?_)
    · refine x_iconst C 46 dX9_isAhead_46 ki_0 ?_
      exact x_zret1 C R 47 (zb_nar (r := (0 : Int32)) (Or.inl rfl)) dX9_isAhead_47
    · refine x_aload_n C 27 2 dX9_isAhead_27 rfl ?_
      refine x_iload_n C 28 3 dX9_isAhead_28 rfl ?_
      refine x_iconst C 29 dX9_isAhead_29 ki_2 ?_
      refine Y_bnd1 (fun r30 h30 => ?_)
      refine x_callVi C 30 [.int v1, .int (2 : Int32)] [] rfl tw_1611 mv_X9_ofWrite (Nat.le_of_ble_eq_true rfl) (Nat.le_of_ble_eq_true rfl) (Nat.le_of_ble_eq_true rfl) (Nat.le_of_ble_eq_true rfl) (km_0 V _) rfl dX9_isAhead_30 (c_X9_ofWrite V _ _ _ _ h30) ?_
      refine x_aload_n C 33 2 dX9_isAhead_33 rfl ?_
      refine x_iload_n C 34 4 dX9_isAhead_34 rfl ?_
      refine x_iconst C 35 dX9_isAhead_35 ki_2 ?_
      refine Y_bnd1 (fun r36 h36 => ?_)
      refine x_callVi C 36 [.int v2, .int (2 : Int32)] [.int r30] rfl tw_1611 mv_X9_ofWrite (Nat.le_of_ble_eq_true rfl) (Nat.le_of_ble_eq_true rfl) (Nat.le_of_ble_eq_true rfl) (Nat.le_of_ble_eq_true rfl) (km_0 V _) rfl dX9_isAhead_36 (c_X9_ofWrite V _ _ _ _ h36) ?_
      refine x_icmp_ge C 39 46 dX9_isAhead_39 (by decide) (fun _ => ?_) (fun _ => ?_)
      · refine x_iconst C 46 dX9_isAhead_46 ki_0 ?_
        exact x_zret1 C R 47 (zb_nar (r := (0 : Int32)) (Or.inl rfl)) dX9_isAhead_47
      · refine x_iconst C 42 dX9_isAhead_42 ki_1 ?_
        refine x_goto C 43 47 dX9_isAhead_43 (by decide) ?_
        exact x_zret1 C R 47 (zb_nar (r := (1 : Int32)) (Or.inr rfl)) dX9_isAhead_47
def M_X9_isKnown (σ : Wd) (v1 : Int32) (v2 : Int32) : Option Int32 :=
  bnd1 (M_X9_ofWrite σ v2 (4 : Int32)) fun r3 => if r3 < 0 then (some (0 : Int32)) else (bnd1 (M_X9_ofWrite σ v2 (4 : Int32)) fun r12 => bnd1 (M_X9_ofCopy σ v1 (0 : Int32)) fun r18 => if r18 ≤ r12 then (some (0 : Int32)) else (some (1 : Int32)))
set_option maxRecDepth 100000 in
set_option maxHeartbeats 4000000 in
theorem c_X9_isKnown (V : Vt) (l : Launch) (σ : Wd) (v1 : Int32) (v2 : Int32) {r : Int32} (h : M_X9_isKnown σ v1 v2 = some r) : Ct l (Zm V) yX9_isKnown cX9_isKnown 3 (some .boolean) 1 22 [.ref (zA (Zm V) 0), .int v1, .int v2] σ (some (.int r)) σ := by
  refine Ct_intro (own := RX9) zm_ok (by decide +kernel) rfl (Nat.le_of_ble_eq_true rfl) [(0, .ref (zA (Zm V) 0)), (1, .int v1), (2, .int v2)] rfl (fun K C R hKl hnL => ?_)
  have hN := nl_of hnL
  subst hKl
  refine Y_end h ?_
  unfold M_X9_isKnown
  refine x_aload_n C 0 0 dX9_isKnown_0 rfl ?_
  refine x_iload_n C 1 2 dX9_isKnown_1 rfl ?_
  refine x_iconst C 2 dX9_isKnown_2 ki_4 ?_
  refine Y_bnd1 (fun r3 h3 => ?_)
  refine x_callVi C 3 [.int v2, .int (4 : Int32)] [] rfl tw_1611 mv_X9_ofWrite (Nat.le_of_ble_eq_true rfl) (Nat.le_of_ble_eq_true rfl) (Nat.le_of_ble_eq_true rfl) (Nat.le_of_ble_eq_true rfl) (km_0 V _) rfl dX9_isKnown_3 (c_X9_ofWrite V _ _ _ _ h3) ?_
  refine x_if_lt C 6 28 dX9_isKnown_6 (by decide) (fun _ => ?_) (fun _ => ?_)
  · refine x_iconst C 28 dX9_isKnown_28 ki_0 ?_
    exact x_zret1 C R 29 (zb_nar (r := (0 : Int32)) (Or.inl rfl)) dX9_isKnown_29
  · refine x_aload_n C 9 0 dX9_isKnown_9 rfl ?_
    refine x_iload_n C 10 2 dX9_isKnown_10 rfl ?_
    refine x_iconst C 11 dX9_isKnown_11 ki_4 ?_
    refine Y_bnd1 (fun r12 h12 => ?_)
    refine x_callVi C 12 [.int v2, .int (4 : Int32)] [] rfl tw_1611 mv_X9_ofWrite (Nat.le_of_ble_eq_true rfl) (Nat.le_of_ble_eq_true rfl) (Nat.le_of_ble_eq_true rfl) (Nat.le_of_ble_eq_true rfl) (km_0 V _) rfl dX9_isKnown_12 (c_X9_ofWrite V _ _ _ _ h12) ?_
    refine x_aload_n C 15 0 dX9_isKnown_15 rfl ?_
    refine x_iload_n C 16 1 dX9_isKnown_16 rfl ?_
    refine x_iconst C 17 dX9_isKnown_17 ki_0 ?_
    refine Y_bnd1 (fun r18 h18 => ?_)
    refine x_callVi C 18 [.int v1, .int (0 : Int32)] [.int r12] rfl tw_1635 mv_X9_ofCopy (Nat.le_of_ble_eq_true rfl) (Nat.le_of_ble_eq_true rfl) (Nat.le_of_ble_eq_true rfl) (Nat.le_of_ble_eq_true rfl) (km_0 V _) rfl dX9_isKnown_18 (c_X9_ofCopy V _ _ _ _ h18) ?_
    refine x_icmp_ge C 21 28 dX9_isKnown_21 (by decide) (fun _ => ?_) (fun _ => ?_)
    · refine x_iconst C 28 dX9_isKnown_28 ki_0 ?_
      exact x_zret1 C R 29 (zb_nar (r := (0 : Int32)) (Or.inl rfl)) dX9_isKnown_29
    · refine x_iconst C 24 dX9_isKnown_24 ki_1 ?_
      refine x_goto C 25 29 dX9_isKnown_25 (by decide) ?_
      exact x_zret1 C R 29 (zb_nar (r := (1 : Int32)) (Or.inr rfl)) dX9_isKnown_29
def M_X9_fillsLog_L14 (v1 : Int32) (v2 : Int32) (v3 : Int32) (σ : Wd) : Option ((Int32 × Wd) ⊕ (Wd)) :=
  if v2 ≤ v3 then (some (.inr σ)) else (chk (ib ((410 : Int32) + v3) 770) (chk (ib (gI σ 0 45) 60) (lt (uI σ 27 (ix (gI σ 0 45)) (gI σ 26 (ix ((410 : Int32) + v3)))) fun s_37 => lt (uI s_37 0 45 ((gI s_37 0 45) + (1 : Int32))) fun s_45 => lt (v3 + (1 : Int32)) fun v3_48 => some (.inl (v3_48, s_45)))))
def M_X9_fillsLog_J138 (σ : Wd) (v1 : Int32) (v2 : Int32) (v3 : Int32) (v4 : Int32) : Option ((Int32 × Wd) ⊕ (Wd)) :=
  chk (ib v4 60) (lt (uI σ 27 (ix v4) v3) fun s_145 => lt (uI s_145 0 45 ((gI s_145 0 45) + (1 : Int32))) fun s_153 => lt (v3 + (1 : Int32)) fun v3_156 => some (.inl (v3_156, s_153)))
def M_X9_fillsLog_L93 (v1 : Int32) (v2 : Int32) (v3 : Int32) (v4 : Int32) (σ : Wd) : Option ((Int32 × Wd) ⊕ (Int32 × Wd)) :=
  if v4 ≤ v2 then (some (.inr (v4, σ))) else (chk (ib (v4 - (1 : Int32)) 60) (bnd1 (M_X9_isAhead σ v3 (gI σ 27 (ix (v4 - (1 : Int32))))) fun r110 => if r110 = 0 then (some (.inr (v4, σ))) else (chk (ib (v4 - (1 : Int32)) 60) (chk (ib v4 60) (lt (uI σ 27 (ix v4) (gI σ 27 (ix (v4 - (1 : Int32))))) fun s_131 => lt (v4 + (-1 : Int32)) fun v4_132 => some (.inl (v4_132, s_131)))))))
def M_X9_fillsLog_L56 (v1 : Int32) (v2 : Int32) (v3 : Int32) (σ : Wd) : Option ((Int32 × Wd) ⊕ (Wd)) :=
  chk (ib (0 : Int32) 770) (if (gI σ 26 (ix (0 : Int32))) ≤ v3 then (some (.inr σ)) else (bnd1 (M_X9_doesHave σ v1 v3) fun r69 => if r69 = 0 then (lt (v3 + (1 : Int32)) fun v3_156 => some (.inl (v3_156, σ))) else (bnd1 (M_X9_isKnown σ v1 v3) fun r78 => if r78 = 0 then (lt (gI σ 0 45) fun v4_91 => bnd1 (iter (fun s : Int32 × Wd => M_X9_fillsLog_L93 v1 v2 v3 s.1 s.2) FU (v4_91, σ)) (un2 fun x4_93 sx_93 => (M_X9_fillsLog_J138 sx_93 v1 v2 v3 x4_93))) else (lt (v3 + (1 : Int32)) fun v3_156 => some (.inl (v3_156, σ))))))
def M_X9_fillsLog (σ : Wd) (v1 : Int32) : Option Wd :=
  bnd1 (M_X9_ofCopy σ v1 (0 : Int32)) fun r3 => lt (uI σ 0 45 (0 : Int32)) fun s_9 => bnd1 (iter (fun s : Int32 × Wd => M_X9_fillsLog_L14 v1 r3 s.1 s.2) FU ((0 : Int32), s_9)) (un1 fun sx_14 => (bnd1 (iter (fun s : Int32 × Wd => M_X9_fillsLog_L56 v1 r3 s.1 s.2) FU ((0 : Int32), sx_14)) (un1 fun sx_56 => (some sx_56))))
set_option maxRecDepth 100000 in
set_option maxHeartbeats 4000000 in
theorem c_X9_fillsLog (V : Vt) (l : Launch) (σ : Wd) (v1 : Int32) {σ2 : Wd} (h : M_X9_fillsLog σ v1 = some σ2) : Ct l (Zm V) yX9_fillsLog cX9_fillsLog 5 none 2 46 [.ref (zA (Zm V) 0), .int v1] σ none σ2 := by
  refine Ct_intro (own := RX9) zm_ok (by decide +kernel) rfl (Nat.le_of_ble_eq_true rfl) [(0, .ref (zA (Zm V) 0)), (1, .int v1)] rfl (fun K C R hKl hnL => ?_)
  have hN := nl_of hnL
  subst hKl
  refine Y_end h ?_
  unfold M_X9_fillsLog
  refine x_aload_n C 0 0 dX9_fillsLog_0 rfl ?_
  refine x_iload_n C 1 1 dX9_fillsLog_1 rfl ?_
  refine x_iconst C 2 dX9_fillsLog_2 ki_0 ?_
  refine Y_bnd1 (fun r3 h3 => ?_)
  refine x_callVi C 3 [.int v1, .int (0 : Int32)] [] rfl tw_1635 mv_X9_ofCopy (Nat.le_of_ble_eq_true rfl) (Nat.le_of_ble_eq_true rfl) (Nat.le_of_ble_eq_true rfl) (Nat.le_of_ble_eq_true rfl) (km_0 V _) rfl dX9_fillsLog_3 (c_X9_ofCopy V _ _ _ _ h3) ?_
  refine x_istore_n C 6 (L' := [(2, .int r3), (0, .ref (zA (Zm V) 0)), (1, .int v1)]) dX9_fillsLog_6 rfl (hN _ (Nat.le_of_ble_eq_true rfl)) rfl ?_
  refine x_aload_n C 7 1 dX9_fillsLog_7 rfl ?_
  refine x_iconst C 8 dX9_fillsLog_8 ki_0 ?_
  refine fp_logMany C 9 dX9_fillsLog_9 (fun s_9 => ?_)
  refine x_iconst C 12 dX9_fillsLog_12 ki_0 ?_
  refine x_istore_n C 13 (L' := [(3, .int (0 : Int32)), (2, .int r3), (0, .ref (zA (Zm V) 0)), (1, .int v1)]) dX9_fillsLog_13 rfl (hN _ (Nat.le_of_ble_eq_true rfl)) rfl ?_
  refine Y_sub [2, 3, 1, 0] rfl ?_
  refine x_loop 14 (fun s : Int32 × Wd => s.2) (fun s : Int32 × Wd => [(0, .ref (zA (Zm V) 0)), (1, .int v1), (2, .int r3), (3, .int s.1)]) (fun E14 hb14 hx14 s => ?_) FU ((0 : Int32), s_9)
  obtain ⟨v3_14, s_14⟩ := s
  show Y K (Zm V) (M_X9_fillsLog_L14 v1 r3 v3_14 s_14) E14 s_14 14 [(0, .ref (zA (Zm V) 0)), (1, .int v1), (2, .int r3), (3, .int v3_14)] []
  unfold M_X9_fillsLog_L14
  refine x_iload_n C 14 3 dX9_fillsLog_14 rfl ?_
  refine x_iload_n C 15 2 dX9_fillsLog_15 rfl ?_
  refine x_icmp_ge C 16 54 dX9_fillsLog_16 (by decide) (fun _ => ?_) (fun _ => ?_)
  · refine x_ex1 hx14 s_14 ?_
    refine x_iconst C 54 dX9_fillsLog_54 ki_0 ?_
    refine x_istore_n C 55 (L' := [(3, .int (0 : Int32)), (0, .ref (zA (Zm V) 0)), (1, .int v1), (2, .int r3)]) dX9_fillsLog_55 rfl (hN _ (Nat.le_of_ble_eq_true rfl)) rfl ?_
    refine Y_sub [1, 2, 3, 0] rfl ?_
    refine x_loop 56 (fun s : Int32 × Wd => s.2) (fun s : Int32 × Wd => [(0, .ref (zA (Zm V) 0)), (1, .int v1), (2, .int r3), (3, .int s.1)]) (fun E56 hb56 hx56 s => ?_) FU ((0 : Int32), s_14)
    obtain ⟨v3_56, s_56⟩ := s
    show Y K (Zm V) (M_X9_fillsLog_L56 v1 r3 v3_56 s_56) E56 s_56 56 [(0, .ref (zA (Zm V) 0)), (1, .int v1), (2, .int r3), (3, .int v3_56)] []
    unfold M_X9_fillsLog_L56
    refine x_iload_n C 56 3 dX9_fillsLog_56 rfl ?_
    refine x_aload_n C 57 0 dX9_fillsLog_57 rfl ?_
    refine fg_row C 58 dX9_fillsLog_58 ?_
    refine x_iconst C 61 dX9_fillsLog_61 ki_0 ?_
    refine x_iald C 62 (Nat.le_of_ble_eq_true rfl) (km_26 V _) dX9_fillsLog_62 (fun _ => ?_)
    refine x_icmp_ge C 63 162 dX9_fillsLog_63 (by decide) (fun _ => ?_) (fun _ => ?_)
    · refine x_ex1 hx56 s_56 ?_
      exact x_vret C R 162 dX9_fillsLog_162
    · refine x_aload_n C 66 0 dX9_fillsLog_66 rfl ?_
      refine x_iload_n C 67 1 dX9_fillsLog_67 rfl ?_
      refine x_iload_n C 68 3 dX9_fillsLog_68 rfl ?_
      refine Y_bnd1 (fun r69 h69 => ?_)
      refine x_callVi C 69 [.int v1, .int v3_56] [] rfl tw_1607 mv_X9_doesHave (Nat.le_of_ble_eq_true rfl) (Nat.le_of_ble_eq_true rfl) (Nat.le_of_ble_eq_true rfl) (Nat.le_of_ble_eq_true rfl) (km_0 V _) rfl dX9_fillsLog_69 (c_X9_doesHave V _ _ _ _ h69) ?_
      refine x_if_eq C 72 156 dX9_fillsLog_72 (by decide) (fun _ => ?_) (fun _ => ?_)
      · refine x_iinct C 156 3 (1 : Int32) (fun v3_156 => [(3, .int v3_156), (0, .ref (zA (Zm V) 0)), (1, .int v1), (2, .int r3)]) dX9_fillsLog_156 rfl ki_1 (hN _ (Nat.le_of_ble_eq_true rfl)) (fun _ => rfl) (fun v3_156 => ?_)
        refine x_goto C 159 56 dX9_fillsLog_159 (by decide) ?_
        refine Y_sub [1, 2, 3, 0] rfl ?_
        exact x_back (v3_156, s_56) (hb56 (v3_156, s_56))
      · refine x_aload_n C 75 0 dX9_fillsLog_75 rfl ?_
        refine x_iload_n C 76 1 dX9_fillsLog_76 rfl ?_
        refine x_iload_n C 77 3 dX9_fillsLog_77 rfl ?_
        refine Y_bnd1 (fun r78 h78 => ?_)
        refine x_callVi C 78 [.int v1, .int v3_56] [] rfl tw_1639 mv_X9_isKnown (Nat.le_of_ble_eq_true rfl) (Nat.le_of_ble_eq_true rfl) (Nat.le_of_ble_eq_true rfl) (Nat.le_of_ble_eq_true rfl) (km_0 V _) rfl dX9_fillsLog_78 (c_X9_isKnown V _ _ _ _ h78) ?_
        refine x_if_eq C 81 87 dX9_fillsLog_81 (by decide) (fun _ => ?_) (fun _ => ?_)
        · refine x_aload_n C 87 0 dX9_fillsLog_87 rfl ?_
          refine fg_logMany C 88 dX9_fillsLog_88 ?_
          refine x_istoret C 91 (fun v4_91 => [(4, .int v4_91), (0, .ref (zA (Zm V) 0)), (1, .int v1), (2, .int r3), (3, .int v3_56)]) dX9_fillsLog_91 (hN _ (Nat.le_of_ble_eq_true rfl)) (fun _ => rfl) (fun v4_91 => ?_)
          have hJ138 : ∀ (σ_138 : Wd) (v3_138 : Int32) (v4_138 : Int32), Y K (Zm V) (M_X9_fillsLog_J138 σ_138 v1 r3 v3_138 v4_138) E56 σ_138 138 [(0, .ref (zA (Zm V) 0)), (1, .int v1), (2, .int r3), (3, .int v3_138), (4, .int v4_138)] [] := by
            intro σ_138 v3_138 v4_138
            unfold M_X9_fillsLog_J138
            refine x_aload_n C 138 0 dX9_fillsLog_138 rfl ?_
            refine fg_logAt C 139 dX9_fillsLog_139 ?_
            refine x_iload C 142 4 dX9_fillsLog_142 rfl ?_
            refine x_iload_n C 144 3 dX9_fillsLog_144 rfl ?_
            refine x_iast C 145 (Nat.le_of_ble_eq_true rfl) (km_27 V) dX9_fillsLog_145 (fun _ s_145 => ?_)
            refine x_aload_n C 146 0 dX9_fillsLog_146 rfl ?_
            refine x_dup C 147 dX9_fillsLog_147 rfl ?_
            refine fg_logMany C 148 dX9_fillsLog_148 ?_
            refine x_iconst C 151 dX9_fillsLog_151 ki_1 ?_
            refine x_iadd C 152 dX9_fillsLog_152 ?_
            refine fp_logMany C 153 dX9_fillsLog_153 (fun s_153 => ?_)
            refine x_iinct C 156 3 (1 : Int32) (fun v3_156 => [(3, .int v3_156), (0, .ref (zA (Zm V) 0)), (1, .int v1), (2, .int r3), (4, .int v4_138)]) dX9_fillsLog_156 rfl ki_1 (hN _ (Nat.le_of_ble_eq_true rfl)) (fun _ => rfl) (fun v3_156 => ?_)
            refine x_goto C 159 56 dX9_fillsLog_159 (by decide) ?_
            refine Y_sub [1, 2, 3, 0] rfl ?_
            exact x_back (v3_156, s_153) (hb56 (v3_156, s_153))
          refine Y_sub [1, 2, 3, 4, 0] rfl ?_
          refine x_loop 93 (fun s : Int32 × Wd => s.2) (fun s : Int32 × Wd => [(0, .ref (zA (Zm V) 0)), (1, .int v1), (2, .int r3), (3, .int v3_56), (4, .int s.1)]) (fun E93 hb93 hx93 s => ?_) FU (v4_91, s_56)
          obtain ⟨v4_93, s_93⟩ := s
          show Y K (Zm V) (M_X9_fillsLog_L93 v1 r3 v3_56 v4_93 s_93) E93 s_93 93 [(0, .ref (zA (Zm V) 0)), (1, .int v1), (2, .int r3), (3, .int v3_56), (4, .int v4_93)] []
          unfold M_X9_fillsLog_L93
          refine x_iload C 93 4 dX9_fillsLog_93 rfl ?_
          refine x_iload_n C 95 2 dX9_fillsLog_95 rfl ?_
          refine x_icmp_le C 96 138 dX9_fillsLog_96 (by decide) (fun _ => ?_) (fun _ => ?_)
          · refine x_ex2 hx93 v4_93 s_93 ?_
            exact hJ138 _ _ _
          · refine x_aload_n C 99 0 dX9_fillsLog_99 rfl ?_
            refine x_iload_n C 100 3 dX9_fillsLog_100 rfl ?_
            refine x_aload_n C 101 0 dX9_fillsLog_101 rfl ?_
            refine fg_logAt C 102 dX9_fillsLog_102 ?_
            refine x_iload C 105 4 dX9_fillsLog_105 rfl ?_
            refine x_iconst C 107 dX9_fillsLog_107 ki_1 ?_
            refine x_isub C 108 dX9_fillsLog_108 ?_
            refine x_iald C 109 (Nat.le_of_ble_eq_true rfl) (km_27 V _) dX9_fillsLog_109 (fun _ => ?_)
            refine Y_bnd1 (fun r110 h110 => ?_)
            refine x_callVi C 110 [.int v3_56, .int (gI s_93 27 (ix (v4_93 - (1 : Int32))))] [] rfl tw_1643 mv_X9_isAhead (Nat.le_of_ble_eq_true rfl) (Nat.le_of_ble_eq_true rfl) (Nat.le_of_ble_eq_true rfl) (Nat.le_of_ble_eq_true rfl) (km_0 V _) rfl dX9_fillsLog_110 (c_X9_isAhead V _ _ _ _ h110) ?_
            refine x_if_eq C 113 138 dX9_fillsLog_113 (by decide) (fun _ => ?_) (fun _ => ?_)
            · refine x_ex2 hx93 v4_93 s_93 ?_
              exact hJ138 _ _ _
            · refine x_aload_n C 116 0 dX9_fillsLog_116 rfl ?_
              refine fg_logAt C 117 dX9_fillsLog_117 ?_
              refine x_iload C 120 4 dX9_fillsLog_120 rfl ?_
              refine x_aload_n C 122 0 dX9_fillsLog_122 rfl ?_
              refine fg_logAt C 123 dX9_fillsLog_123 ?_
              refine x_iload C 126 4 dX9_fillsLog_126 rfl ?_
              refine x_iconst C 128 dX9_fillsLog_128 ki_1 ?_
              refine x_isub C 129 dX9_fillsLog_129 ?_
              refine x_iald C 130 (Nat.le_of_ble_eq_true rfl) (km_27 V _) dX9_fillsLog_130 (fun _ => ?_)
              refine x_iast C 131 (Nat.le_of_ble_eq_true rfl) (km_27 V) dX9_fillsLog_131 (fun _ s_131 => ?_)
              refine x_iinct C 132 4 (-1 : Int32) (fun v4_132 => [(4, .int v4_132), (0, .ref (zA (Zm V) 0)), (1, .int v1), (2, .int r3), (3, .int v3_56)]) dX9_fillsLog_132 rfl ki_m1 (hN _ (Nat.le_of_ble_eq_true rfl)) (fun _ => rfl) (fun v4_132 => ?_)
              refine x_goto C 135 93 dX9_fillsLog_135 (by decide) ?_
              refine Y_sub [1, 2, 3, 4, 0] rfl ?_
              exact x_back (v4_132, s_131) (hb93 (v4_132, s_131))
        · refine x_goto C 84 156 dX9_fillsLog_84 (by decide) ?_
          refine x_iinct C 156 3 (1 : Int32) (fun v3_156 => [(3, .int v3_156), (0, .ref (zA (Zm V) 0)), (1, .int v1), (2, .int r3)]) dX9_fillsLog_156 rfl ki_1 (hN _ (Nat.le_of_ble_eq_true rfl)) (fun _ => rfl) (fun v3_156 => ?_)
          refine x_goto C 159 56 dX9_fillsLog_159 (by decide) ?_
          refine Y_sub [1, 2, 3, 0] rfl ?_
          exact x_back (v3_156, s_56) (hb56 (v3_156, s_56))
  · refine x_aload_n C 19 0 dX9_fillsLog_19 rfl ?_
    refine fg_logAt C 20 dX9_fillsLog_20 ?_
    refine x_aload_n C 23 0 dX9_fillsLog_23 rfl ?_
    refine fg_logMany C 24 dX9_fillsLog_24 ?_
    refine x_aload_n C 27 0 dX9_fillsLog_27 rfl ?_
    refine fg_row C 28 dX9_fillsLog_28 ?_
    refine x_sipush C 31 dX9_fillsLog_31 ks_410 ?_
    refine x_iload_n C 34 3 dX9_fillsLog_34 rfl ?_
    refine x_iadd C 35 dX9_fillsLog_35 ?_
    refine x_iald C 36 (Nat.le_of_ble_eq_true rfl) (km_26 V _) dX9_fillsLog_36 (fun _ => ?_)
    refine x_iast C 37 (Nat.le_of_ble_eq_true rfl) (km_27 V) dX9_fillsLog_37 (fun _ s_37 => ?_)
    refine x_aload_n C 38 0 dX9_fillsLog_38 rfl ?_
    refine x_dup C 39 dX9_fillsLog_39 rfl ?_
    refine fg_logMany C 40 dX9_fillsLog_40 ?_
    refine x_iconst C 43 dX9_fillsLog_43 ki_1 ?_
    refine x_iadd C 44 dX9_fillsLog_44 ?_
    refine fp_logMany C 45 dX9_fillsLog_45 (fun s_45 => ?_)
    refine x_iinct C 48 3 (1 : Int32) (fun v3_48 => [(3, .int v3_48), (0, .ref (zA (Zm V) 0)), (1, .int v1), (2, .int r3)]) dX9_fillsLog_48 rfl ki_1 (hN _ (Nat.le_of_ble_eq_true rfl)) (fun _ => rfl) (fun v3_48 => ?_)
    refine x_goto C 51 14 dX9_fillsLog_51 (by decide) ?_
    refine Y_sub [1, 2, 3, 0] rfl ?_
    exact x_back (v3_48, s_45) (hb14 (v3_48, s_45))
def M_X9_keepsLog_L10 (v1 : Int32) (σ : Wd) : Option ((Int32 × Wd) ⊕ (Wd)) :=
  if (gI σ 0 45) ≤ v1 then (some (.inr σ)) else (chk (ib v1 60) (chk (ib v1 60) (lt (uI σ 28 (ix v1) (gI σ 27 (ix v1))) fun s_29 => lt (v1 + (1 : Int32)) fun v1_30 => some (.inl (v1_30, s_29)))))
def M_X9_keepsLog (σ : Wd) : Option Wd :=
  lt (uI σ 0 47 (gI σ 0 45)) fun s_5 => bnd1 (iter (fun s : Int32 × Wd => M_X9_keepsLog_L10 s.1 s.2) FU ((0 : Int32), s_5)) (un1 fun sx_10 => (some sx_10))
set_option maxRecDepth 100000 in
set_option maxHeartbeats 4000000 in
theorem c_X9_keepsLog (V : Vt) (l : Launch) (σ : Wd) {σ2 : Wd} (h : M_X9_keepsLog σ = some σ2) : Ct l (Zm V) yX9_keepsLog cX9_keepsLog 2 none 0 0 [.ref (zA (Zm V) 0)] σ none σ2 := by
  refine Ct_intro (own := RX9) zm_ok (by decide +kernel) rfl (Nat.le_of_ble_eq_true rfl) [(0, .ref (zA (Zm V) 0))] rfl (fun K C R hKl hnL => ?_)
  have hN := nl_of hnL
  subst hKl
  refine Y_end h ?_
  unfold M_X9_keepsLog
  refine x_aload_n C 0 0 dX9_keepsLog_0 rfl ?_
  refine x_aload_n C 1 0 dX9_keepsLog_1 rfl ?_
  refine fg_logMany C 2 dX9_keepsLog_2 ?_
  refine fp_wasMany C 5 dX9_keepsLog_5 (fun s_5 => ?_)
  refine x_iconst C 8 dX9_keepsLog_8 ki_0 ?_
  refine x_istore_n C 9 (L' := [(1, .int (0 : Int32)), (0, .ref (zA (Zm V) 0))]) dX9_keepsLog_9 rfl (hN _ (Nat.le_of_ble_eq_true rfl)) rfl ?_
  refine Y_sub [1, 0] rfl ?_
  refine x_loop 10 (fun s : Int32 × Wd => s.2) (fun s : Int32 × Wd => [(0, .ref (zA (Zm V) 0)), (1, .int s.1)]) (fun E10 hb10 hx10 s => ?_) FU ((0 : Int32), s_5)
  obtain ⟨v1_10, s_10⟩ := s
  show Y K (Zm V) (M_X9_keepsLog_L10 v1_10 s_10) E10 s_10 10 [(0, .ref (zA (Zm V) 0)), (1, .int v1_10)] []
  unfold M_X9_keepsLog_L10
  refine x_iload_n C 10 1 dX9_keepsLog_10 rfl ?_
  refine x_aload_n C 11 0 dX9_keepsLog_11 rfl ?_
  refine fg_logMany C 12 dX9_keepsLog_12 ?_
  refine x_icmp_ge C 15 36 dX9_keepsLog_15 (by decide) (fun _ => ?_) (fun _ => ?_)
  · refine x_ex1 hx10 s_10 ?_
    exact x_vret C R 36 dX9_keepsLog_36
  · refine x_aload_n C 18 0 dX9_keepsLog_18 rfl ?_
    refine fg_wasAt C 19 dX9_keepsLog_19 ?_
    refine x_iload_n C 22 1 dX9_keepsLog_22 rfl ?_
    refine x_aload_n C 23 0 dX9_keepsLog_23 rfl ?_
    refine fg_logAt C 24 dX9_keepsLog_24 ?_
    refine x_iload_n C 27 1 dX9_keepsLog_27 rfl ?_
    refine x_iald C 28 (Nat.le_of_ble_eq_true rfl) (km_27 V _) dX9_keepsLog_28 (fun _ => ?_)
    refine x_iast C 29 (Nat.le_of_ble_eq_true rfl) (km_28 V) dX9_keepsLog_29 (fun _ s_29 => ?_)
    refine x_iinct C 30 1 (1 : Int32) (fun v1_30 => [(1, .int v1_30), (0, .ref (zA (Zm V) 0))]) dX9_keepsLog_30 rfl ki_1 (hN _ (Nat.le_of_ble_eq_true rfl)) (fun _ => rfl) (fun v1_30 => ?_)
    refine x_goto C 33 10 dX9_keepsLog_33 (by decide) ?_
    refine Y_sub [1, 0] rfl ?_
    exact x_back (v1_30, s_29) (hb10 (v1_30, s_29))
def M_X9_alikeLogs_L2 (σ : Wd) (v1 : Int32) : Option ((Int32) ⊕ (Int32)) :=
  if (gI σ 0 45) ≤ v1 then (some (.inr v1)) else (if (gI σ 0 47) ≤ v1 then (some (.inr v1)) else (chk (ib v1 60) (chk (ib v1 60) (if (gI σ 27 (ix v1)) ≠ (gI σ 28 (ix v1)) then (some (.inr v1)) else (lt (v1 + (1 : Int32)) fun v1_33 => some (.inl v1_33))))))
def M_X9_alikeLogs (σ : Wd) : Option Int32 :=
  bnd1 (iter (fun s : Int32 => M_X9_alikeLogs_L2 σ s) FU (0 : Int32)) (un1 fun x1_2 => (some x1_2))
set_option maxRecDepth 100000 in
set_option maxHeartbeats 4000000 in
theorem c_X9_alikeLogs (V : Vt) (l : Launch) (σ : Wd) {r : Int32} (h : M_X9_alikeLogs σ = some r) : Ct l (Zm V) yX9_alikeLogs cX9_alikeLogs 2 (some .int) 0 0 [.ref (zA (Zm V) 0)] σ (some (.int r)) σ := by
  refine Ct_intro (own := RX9) zm_ok (by decide +kernel) rfl (Nat.le_of_ble_eq_true rfl) [(0, .ref (zA (Zm V) 0))] rfl (fun K C R hKl hnL => ?_)
  have hN := nl_of hnL
  subst hKl
  refine Y_end h ?_
  unfold M_X9_alikeLogs
  refine x_iconst C 0 dX9_alikeLogs_0 ki_0 ?_
  refine x_istore_n C 1 (L' := [(1, .int (0 : Int32)), (0, .ref (zA (Zm V) 0))]) dX9_alikeLogs_1 rfl (hN _ (Nat.le_of_ble_eq_true rfl)) rfl ?_
  refine Y_sub [1, 0] rfl ?_
  refine x_loop 2 (fun s : Int32 => σ) (fun s : Int32 => [(0, .ref (zA (Zm V) 0)), (1, .int s)]) (fun E2 hb2 hx2 s => ?_) FU (0 : Int32)
  obtain ⟨v1_2, rfl⟩ : ∃ z, z = s := ⟨s, rfl⟩
  show Y K (Zm V) (M_X9_alikeLogs_L2 σ v1_2) E2 σ 2 [(0, .ref (zA (Zm V) 0)), (1, .int v1_2)] []
  unfold M_X9_alikeLogs_L2
  refine x_iload_n C 2 1 dX9_alikeLogs_2 rfl ?_
  refine x_aload_n C 3 0 dX9_alikeLogs_3 rfl ?_
  refine fg_logMany C 4 dX9_alikeLogs_4 ?_
  refine x_icmp_ge C 7 39 dX9_alikeLogs_7 (by decide) (fun _ => ?_) (fun _ => ?_)
  · refine x_ex1 hx2 v1_2 ?_
    refine x_iload_n C 39 1 dX9_alikeLogs_39 rfl ?_
    exact x_iret1 C R 40 dX9_alikeLogs_40
  · refine x_iload_n C 10 1 dX9_alikeLogs_10 rfl ?_
    refine x_aload_n C 11 0 dX9_alikeLogs_11 rfl ?_
    refine fg_wasMany C 12 dX9_alikeLogs_12 ?_
    refine x_icmp_ge C 15 39 dX9_alikeLogs_15 (by decide) (fun _ => ?_) (fun _ => ?_)
    · refine x_ex1 hx2 v1_2 ?_
      refine x_iload_n C 39 1 dX9_alikeLogs_39 rfl ?_
      exact x_iret1 C R 40 dX9_alikeLogs_40
    · refine x_aload_n C 18 0 dX9_alikeLogs_18 rfl ?_
      refine fg_logAt C 19 dX9_alikeLogs_19 ?_
      refine x_iload_n C 22 1 dX9_alikeLogs_22 rfl ?_
      refine x_iald C 23 (Nat.le_of_ble_eq_true rfl) (km_27 V _) dX9_alikeLogs_23 (fun _ => ?_)
      refine x_aload_n C 24 0 dX9_alikeLogs_24 rfl ?_
      refine fg_wasAt C 25 dX9_alikeLogs_25 ?_
      refine x_iload_n C 28 1 dX9_alikeLogs_28 rfl ?_
      refine x_iald C 29 (Nat.le_of_ble_eq_true rfl) (km_28 V _) dX9_alikeLogs_29 (fun _ => ?_)
      refine x_icmp_ne C 30 39 dX9_alikeLogs_30 (by decide) (fun _ => ?_) (fun _ => ?_)
      · refine x_ex1 hx2 v1_2 ?_
        refine x_iload_n C 39 1 dX9_alikeLogs_39 rfl ?_
        exact x_iret1 C R 40 dX9_alikeLogs_40
      · refine x_iinct C 33 1 (1 : Int32) (fun v1_33 => [(1, .int v1_33), (0, .ref (zA (Zm V) 0))]) dX9_alikeLogs_33 rfl ki_1 (hN _ (Nat.le_of_ble_eq_true rfl)) (fun _ => rfl) (fun v1_33 => ?_)
        refine x_goto C 36 2 dX9_alikeLogs_36 (by decide) ?_
        refine Y_sub [1, 0] rfl ?_
        exact x_back v1_33 (hb2 v1_33)
def M_X9_firstCells_L2 (v1 : Int32) (σ : Wd) : Option ((Int32 × Wd) ⊕ (Wd)) :=
  if (6 : Int32) ≤ v1 then (some (.inr σ)) else (chk (ib (((6 : Int32) * (gI σ 0 18)) + v1) 12) (chk (ib v1 6) (lt (uI σ 29 (ix v1) (gI σ 13 (ix (((6 : Int32) * (gI σ 0 18)) + v1)))) fun s_27 => lt (v1 + (1 : Int32)) fun v1_28 => some (.inl (v1_28, s_27)))))
def M_X9_firstCells (σ : Wd) : Option Wd :=
  bnd1 (iter (fun s : Int32 × Wd => M_X9_firstCells_L2 s.1 s.2) FU ((0 : Int32), σ)) (un1 fun sx_2 => (some sx_2))
set_option maxRecDepth 100000 in
set_option maxHeartbeats 4000000 in
theorem c_X9_firstCells (V : Vt) (l : Launch) (σ : Wd) {σ2 : Wd} (h : M_X9_firstCells σ = some σ2) : Ct l (Zm V) yX9_firstCells cX9_firstCells 2 none 0 0 [.ref (zA (Zm V) 0)] σ none σ2 := by
  refine Ct_intro (own := RX9) zm_ok (by decide +kernel) rfl (Nat.le_of_ble_eq_true rfl) [(0, .ref (zA (Zm V) 0))] rfl (fun K C R hKl hnL => ?_)
  have hN := nl_of hnL
  subst hKl
  refine Y_end h ?_
  unfold M_X9_firstCells
  refine x_iconst C 0 dX9_firstCells_0 ki_0 ?_
  refine x_istore_n C 1 (L' := [(1, .int (0 : Int32)), (0, .ref (zA (Zm V) 0))]) dX9_firstCells_1 rfl (hN _ (Nat.le_of_ble_eq_true rfl)) rfl ?_
  refine Y_sub [1, 0] rfl ?_
  refine x_loop 2 (fun s : Int32 × Wd => s.2) (fun s : Int32 × Wd => [(0, .ref (zA (Zm V) 0)), (1, .int s.1)]) (fun E2 hb2 hx2 s => ?_) FU ((0 : Int32), σ)
  obtain ⟨v1_2, s_2⟩ := s
  show Y K (Zm V) (M_X9_firstCells_L2 v1_2 s_2) E2 s_2 2 [(0, .ref (zA (Zm V) 0)), (1, .int v1_2)] []
  unfold M_X9_firstCells_L2
  refine x_iload_n C 2 1 dX9_firstCells_2 rfl ?_
  refine x_bipush C 3 dX9_firstCells_3 kb_6 ?_
  refine x_icmp_ge C 5 34 dX9_firstCells_5 (by decide) (fun _ => ?_) (fun _ => ?_)
  · refine x_ex1 hx2 s_2 ?_
    exact x_vret C R 34 dX9_firstCells_34
  · refine x_aload_n C 8 0 dX9_firstCells_8 rfl ?_
    refine fg_cellNow C 9 dX9_firstCells_9 ?_
    refine x_iload_n C 12 1 dX9_firstCells_12 rfl ?_
    refine x_aload_n C 13 0 dX9_firstCells_13 rfl ?_
    refine fg_firstIn C 14 dX9_firstCells_14 ?_
    refine x_bipush C 17 dX9_firstCells_17 kb_6 ?_
    refine x_aload_n C 19 0 dX9_firstCells_19 rfl ?_
    refine fg_live C 20 dX9_firstCells_20 ?_
    refine x_imul C 23 dX9_firstCells_23 ?_
    refine x_iload_n C 24 1 dX9_firstCells_24 rfl ?_
    refine x_iadd C 25 dX9_firstCells_25 ?_
    refine x_iald C 26 (Nat.le_of_ble_eq_true rfl) (km_13 V _) dX9_firstCells_26 (fun _ => ?_)
    refine x_iast C 27 (Nat.le_of_ble_eq_true rfl) (km_29 V) dX9_firstCells_27 (fun _ s_27 => ?_)
    refine x_iinct C 28 1 (1 : Int32) (fun v1_28 => [(1, .int v1_28), (0, .ref (zA (Zm V) 0))]) dX9_firstCells_28 rfl ki_1 (hN _ (Nat.le_of_ble_eq_true rfl)) (fun _ => rfl) (fun v1_28 => ?_)
    refine x_goto C 31 2 dX9_firstCells_31 (by decide) ?_
    refine Y_sub [1, 0] rfl ?_
    exact x_back (v1_28, s_27) (hb2 (v1_28, s_27))
def M_X9_reckoned_L22 (v1 : Int32) (v3 : Int32) (v4 : Int32) (σ : Wd) : Option ((Int32 × Wd) ⊕ (Wd)) :=
  if (6 : Int32) ≤ v4 then (some (.inr σ)) else (chk (ib v4 6) (chk (ib v4 9) (lt (uI σ 23 (ix v4) (gI σ 29 (ix v4))) fun s_42 => lt (v4 + (1 : Int32)) fun v4_43 => some (.inl (v4_43, s_42)))))
def M_X9_reckoned (σ : Wd) (v1 : Int32) (v2 : Int32) : Option (Int32 × Wd) :=
  bnd1 (M_X9_ofWrite σ v1 (0 : Int32)) fun r11 => lt ((((30 : Int32) * (gI σ 0 18)) + ((5 : Int32) * r11)) + v2) fun v3_18 => bnd1 (iter (fun s : Int32 × Wd => M_X9_reckoned_L22 v1 v3_18 s.1 s.2) FU ((0 : Int32), σ)) (un1 fun sx_22 => (bnd1 (M_X9_ofWrite sx_22 v1 (1 : Int32)) fun r58 => chk (ib (6 : Int32) 9) (lt (uI sx_22 23 (ix (6 : Int32)) r58) fun s_61 => bnd1 (M_X9_ofWrite s_61 v1 (3 : Int32)) fun r71 => chk (ib (7 : Int32) 9) (lt (uI s_61 23 (ix (7 : Int32)) r71) fun s_74 => bnd1 (M_X9_ofWrite s_74 v1 (2 : Int32)) fun r84 => chk (ib (8 : Int32) 9) (lt (uI s_74 23 (ix (8 : Int32)) r84) fun s_87 => chk (ib v3_18 60) (chk (ib (v3_18 + (1 : Int32)) 60) (bnd2 (M_X9_termOf s_87 (gI s_87 18 (ix v3_18)) (gI s_87 18 (ix (v3_18 + (1 : Int32))))) fun r103 s_103 => some (r103, s_103))))))))
set_option maxRecDepth 100000 in
set_option maxHeartbeats 4000000 in
theorem c_X9_reckoned (V : Vt) (l : Launch) (σ : Wd) (v1 : Int32) (v2 : Int32) {r : Int32} {σ2 : Wd} (h : M_X9_reckoned σ v1 v2 = some (r, σ2)) : Ct l (Zm V) yX9_reckoned cX9_reckoned 5 (some .int) 1 27 [.ref (zA (Zm V) 0), .int v1, .int v2] σ (some (.int r)) σ2 := by
  refine Ct_intro (own := RX9) zm_ok (by decide +kernel) rfl (Nat.le_of_ble_eq_true rfl) [(0, .ref (zA (Zm V) 0)), (1, .int v1), (2, .int v2)] rfl (fun K C R hKl hnL => ?_)
  have hN := nl_of hnL
  subst hKl
  refine Y_end h ?_
  unfold M_X9_reckoned
  refine x_bipush C 0 dX9_reckoned_0 kb_30 ?_
  refine x_aload_n C 2 0 dX9_reckoned_2 rfl ?_
  refine fg_live C 3 dX9_reckoned_3 ?_
  refine x_imul C 6 dX9_reckoned_6 ?_
  refine x_iconst C 7 dX9_reckoned_7 ki_5 ?_
  refine x_aload_n C 8 0 dX9_reckoned_8 rfl ?_
  refine x_iload_n C 9 1 dX9_reckoned_9 rfl ?_
  refine x_iconst C 10 dX9_reckoned_10 ki_0 ?_
  refine Y_bnd1 (fun r11 h11 => ?_)
  refine x_callVi C 11 [.int v1, .int (0 : Int32)] [.int (5 : Int32), .int ((30 : Int32) * (gI σ 0 18))] rfl tw_1611 mv_X9_ofWrite (Nat.le_of_ble_eq_true rfl) (Nat.le_of_ble_eq_true rfl) (Nat.le_of_ble_eq_true rfl) (Nat.le_of_ble_eq_true rfl) (km_0 V _) rfl dX9_reckoned_11 (c_X9_ofWrite V _ _ _ _ h11) ?_
  refine x_imul C 14 dX9_reckoned_14 ?_
  refine x_iadd C 15 dX9_reckoned_15 ?_
  refine x_iload_n C 16 2 dX9_reckoned_16 rfl ?_
  refine x_iadd C 17 dX9_reckoned_17 ?_
  refine x_istore_nt C 18 (fun v3_18 => [(3, .int v3_18), (0, .ref (zA (Zm V) 0)), (1, .int v1), (2, .int v2)]) dX9_reckoned_18 rfl (hN _ (Nat.le_of_ble_eq_true rfl)) (fun _ => rfl) (fun v3_18 => ?_)
  refine x_iconst C 19 dX9_reckoned_19 ki_0 ?_
  refine x_istore C 20 (L' := [(4, .int (0 : Int32)), (3, .int v3_18), (0, .ref (zA (Zm V) 0)), (1, .int v1), (2, .int v2)]) dX9_reckoned_20 (hN _ (Nat.le_of_ble_eq_true rfl)) rfl ?_
  refine Y_sub [2, 3, 1, 0] rfl ?_
  refine x_loop 22 (fun s : Int32 × Wd => s.2) (fun s : Int32 × Wd => [(0, .ref (zA (Zm V) 0)), (1, .int v1), (3, .int v3_18), (4, .int s.1)]) (fun E22 hb22 hx22 s => ?_) FU ((0 : Int32), σ)
  obtain ⟨v4_22, s_22⟩ := s
  show Y K (Zm V) (M_X9_reckoned_L22 v1 v3_18 v4_22 s_22) E22 s_22 22 [(0, .ref (zA (Zm V) 0)), (1, .int v1), (3, .int v3_18), (4, .int v4_22)] []
  unfold M_X9_reckoned_L22
  refine x_iload C 22 3 dX9_reckoned_22 rfl ?_
  refine x_bipush C 24 dX9_reckoned_24 kb_6 ?_
  refine x_icmp_ge C 26 49 dX9_reckoned_26 (by decide) (fun _ => ?_) (fun _ => ?_)
  · refine x_ex1 hx22 s_22 ?_
    refine x_aload_n C 49 0 dX9_reckoned_49 rfl ?_
    refine fg_variables C 50 dX9_reckoned_50 ?_
    refine x_bipush C 53 dX9_reckoned_53 kb_6 ?_
    refine x_aload_n C 55 0 dX9_reckoned_55 rfl ?_
    refine x_iload_n C 56 1 dX9_reckoned_56 rfl ?_
    refine x_iconst C 57 dX9_reckoned_57 ki_1 ?_
    refine Y_bnd1 (fun r58 h58 => ?_)
    refine x_callVi C 58 [.int v1, .int (1 : Int32)] [.int (6 : Int32), .ref (zA (Zm V) 23)] rfl tw_1611 mv_X9_ofWrite (Nat.le_of_ble_eq_true rfl) (Nat.le_of_ble_eq_true rfl) (Nat.le_of_ble_eq_true rfl) (Nat.le_of_ble_eq_true rfl) (km_0 V _) rfl dX9_reckoned_58 (c_X9_ofWrite V _ _ _ _ h58) ?_
    refine x_iast C 61 (Nat.le_of_ble_eq_true rfl) (km_23 V) dX9_reckoned_61 (fun _ s_61 => ?_)
    refine x_aload_n C 62 0 dX9_reckoned_62 rfl ?_
    refine fg_variables C 63 dX9_reckoned_63 ?_
    refine x_bipush C 66 dX9_reckoned_66 kb_7 ?_
    refine x_aload_n C 68 0 dX9_reckoned_68 rfl ?_
    refine x_iload_n C 69 1 dX9_reckoned_69 rfl ?_
    refine x_iconst C 70 dX9_reckoned_70 ki_3 ?_
    refine Y_bnd1 (fun r71 h71 => ?_)
    refine x_callVi C 71 [.int v1, .int (3 : Int32)] [.int (7 : Int32), .ref (zA (Zm V) 23)] rfl tw_1611 mv_X9_ofWrite (Nat.le_of_ble_eq_true rfl) (Nat.le_of_ble_eq_true rfl) (Nat.le_of_ble_eq_true rfl) (Nat.le_of_ble_eq_true rfl) (km_0 V _) rfl dX9_reckoned_71 (c_X9_ofWrite V _ _ _ _ h71) ?_
    refine x_iast C 74 (Nat.le_of_ble_eq_true rfl) (km_23 V) dX9_reckoned_74 (fun _ s_74 => ?_)
    refine x_aload_n C 75 0 dX9_reckoned_75 rfl ?_
    refine fg_variables C 76 dX9_reckoned_76 ?_
    refine x_bipush C 79 dX9_reckoned_79 kb_8 ?_
    refine x_aload_n C 81 0 dX9_reckoned_81 rfl ?_
    refine x_iload_n C 82 1 dX9_reckoned_82 rfl ?_
    refine x_iconst C 83 dX9_reckoned_83 ki_2 ?_
    refine Y_bnd1 (fun r84 h84 => ?_)
    refine x_callVi C 84 [.int v1, .int (2 : Int32)] [.int (8 : Int32), .ref (zA (Zm V) 23)] rfl tw_1611 mv_X9_ofWrite (Nat.le_of_ble_eq_true rfl) (Nat.le_of_ble_eq_true rfl) (Nat.le_of_ble_eq_true rfl) (Nat.le_of_ble_eq_true rfl) (km_0 V _) rfl dX9_reckoned_84 (c_X9_ofWrite V _ _ _ _ h84) ?_
    refine x_iast C 87 (Nat.le_of_ble_eq_true rfl) (km_23 V) dX9_reckoned_87 (fun _ s_87 => ?_)
    refine x_aload_n C 88 0 dX9_reckoned_88 rfl ?_
    refine x_aload_n C 89 0 dX9_reckoned_89 rfl ?_
    refine fg_formFrom C 90 dX9_reckoned_90 ?_
    refine x_iload_n C 93 2 dX9_reckoned_93 rfl ?_
    refine x_iald C 94 (Nat.le_of_ble_eq_true rfl) (km_18 V _) dX9_reckoned_94 (fun _ => ?_)
    refine x_aload_n C 95 0 dX9_reckoned_95 rfl ?_
    refine fg_formFrom C 96 dX9_reckoned_96 ?_
    refine x_iload_n C 99 2 dX9_reckoned_99 rfl ?_
    refine x_iconst C 100 dX9_reckoned_100 ki_1 ?_
    refine x_iadd C 101 dX9_reckoned_101 ?_
    refine x_iald C 102 (Nat.le_of_ble_eq_true rfl) (km_18 V _) dX9_reckoned_102 (fun _ => ?_)
    refine Y_bnd2 (fun r103 s_103 h103 => ?_)
    refine x_callVi C 103 [.int (gI s_87 18 (ix v3_18)), .int (gI s_87 18 (ix (v3_18 + (1 : Int32))))] [] rfl tw_1691 mv_X9_termOf (Nat.le_of_ble_eq_true rfl) (Nat.le_of_ble_eq_true rfl) (Nat.le_of_ble_eq_true rfl) (Nat.le_of_ble_eq_true rfl) (km_0 V _) rfl dX9_reckoned_103 (c_X9_termOf V _ _ _ _ h103) ?_
    exact x_iret2 C R 106 dX9_reckoned_106
  · refine x_aload_n C 29 0 dX9_reckoned_29 rfl ?_
    refine fg_variables C 30 dX9_reckoned_30 ?_
    refine x_iload C 33 3 dX9_reckoned_33 rfl ?_
    refine x_aload_n C 35 0 dX9_reckoned_35 rfl ?_
    refine fg_cellNow C 36 dX9_reckoned_36 ?_
    refine x_iload C 39 3 dX9_reckoned_39 rfl ?_
    refine x_iald C 41 (Nat.le_of_ble_eq_true rfl) (km_29 V _) dX9_reckoned_41 (fun _ => ?_)
    refine x_iast C 42 (Nat.le_of_ble_eq_true rfl) (km_23 V) dX9_reckoned_42 (fun _ s_42 => ?_)
    refine x_iinct C 43 3 (1 : Int32) (fun v4_43 => [(4, .int v4_43), (0, .ref (zA (Zm V) 0)), (1, .int v1), (3, .int v3_18)]) dX9_reckoned_43 rfl ki_1 (hN _ (Nat.le_of_ble_eq_true rfl)) (fun _ => rfl) (fun v4_43 => ?_)
    refine x_goto C 46 22 dX9_reckoned_46 (by decide) ?_
    refine Y_sub [1, 2, 3, 0] rfl ?_
    exact x_back (v4_43, s_42) (hb22 (v4_43, s_42))
def M_X9_doneOne_J159 (σ : Wd) (v2 : Int32) (v6 : Int32) (v7 : Int32) (t0 : Int32) (t1 : Int32) : Option (Int32 × Wd) :=
  chk (ib t1 60) (lt (uI σ 31 (ix t1) t0) fun s_159 => chk (ib v2 60) (chk (ib (gI s_159 31 (ix v2)) 6) (lt (uI s_159 29 (ix (gI s_159 31 (ix v2))) v7) fun s_172 => if v6 = 0 then (some ((1 : Int32), s_172)) else (some ((0 : Int32), s_172)))))
def M_X9_doneOne_J120 (σ : Wd) (v2 : Int32) (v3 : Int32) (v6 : Int32) (t0 : Int32) (t1 : Int32) : Option (Int32 × Wd) :=
  bnd2 (M_X9_reckoned σ t1 t0) fun r120 s_120 => if (gI s_120 0 40) = 0 then (if v6 = 0 then (chk (ib v3 12) (M_X9_doneOne_J159 s_120 v2 v6 r120 (gI s_120 17 (ix v3)) v2)) else (chk (ib v3 12) (M_X9_doneOne_J159 s_120 v2 v6 r120 (gI s_120 16 (ix v3)) v2))) else (some ((3 : Int32), s_120))
def M_X9_doneOne_J108 (σ : Wd) (v1 : Int32) (v2 : Int32) (v3 : Int32) (v6 : Int32) : Option (Int32 × Wd) :=
  if v6 = 0 then (M_X9_doneOne_J120 σ v2 v3 v6 (3 : Int32) v1) else (M_X9_doneOne_J120 σ v2 v3 v6 (2 : Int32) v1)
def M_X9_doneOne_J90 (σ : Wd) (v1 : Int32) (v2 : Int32) (v3 : Int32) (t0 : Int32) : Option (Int32 × Wd) :=
  if t0 ≠ 0 then (M_X9_doneOne_J108 σ v1 v2 v3 t0) else (chk (ib v3 12) (if 0 ≤ (gI σ 17 (ix v3)) then (M_X9_doneOne_J108 σ v1 v2 v3 t0) else (some ((2 : Int32), σ))))
def M_X9_doneOne (σ : Wd) (v1 : Int32) (v2 : Int32) : Option (Int32 × Wd) :=
  bnd1 (M_X9_ofWrite σ v1 (0 : Int32)) fun r10 => lt (((6 : Int32) * (gI σ 0 18)) + r10) fun v3_14 => lt (uI σ 0 40 (0 : Int32)) fun s_17 => chk (ib v2 60) (lt (uI s_17 31 (ix v2) (-1 : Int32)) fun s_26 => bnd2 (M_X9_reckoned s_26 v1 (0 : Int32)) fun r30 s_30 => bnd2 (M_X9_reckoned s_30 v1 (1 : Int32)) fun r38 s_38 => if (gI s_38 0 40) = 0 then (chk (ib v3_14 12) (if (gI s_38 15 (ix v3_14)) ≠ (13 : Int32) then (if r30 ≠ r38 then (M_X9_doneOne_J90 s_38 v1 v2 v3_14 (0 : Int32)) else (M_X9_doneOne_J90 s_38 v1 v2 v3_14 (1 : Int32))) else (if r38 ≤ r30 then (M_X9_doneOne_J90 s_38 v1 v2 v3_14 (0 : Int32)) else (M_X9_doneOne_J90 s_38 v1 v2 v3_14 (1 : Int32))))) else (some ((3 : Int32), s_38)))
set_option maxRecDepth 100000 in
set_option maxHeartbeats 4000000 in
theorem c_X9_doneOne (V : Vt) (l : Launch) (σ : Wd) (v1 : Int32) (v2 : Int32) {r : Int32} {σ2 : Wd} (h : M_X9_doneOne σ v1 v2 = some (r, σ2)) : Ct l (Zm V) yX9_doneOne cX9_doneOne 8 (some .int) 2 51 [.ref (zA (Zm V) 0), .int v1, .int v2] σ (some (.int r)) σ2 := by
  refine Ct_intro (own := RX9) zm_ok (by decide +kernel) rfl (Nat.le_of_ble_eq_true rfl) [(0, .ref (zA (Zm V) 0)), (1, .int v1), (2, .int v2)] rfl (fun K C R hKl hnL => ?_)
  have hN := nl_of hnL
  subst hKl
  refine Y_end h ?_
  unfold M_X9_doneOne
  refine x_bipush C 0 dX9_doneOne_0 kb_6 ?_
  refine x_aload_n C 2 0 dX9_doneOne_2 rfl ?_
  refine fg_live C 3 dX9_doneOne_3 ?_
  refine x_imul C 6 dX9_doneOne_6 ?_
  refine x_aload_n C 7 0 dX9_doneOne_7 rfl ?_
  refine x_iload_n C 8 1 dX9_doneOne_8 rfl ?_
  refine x_iconst C 9 dX9_doneOne_9 ki_0 ?_
  refine Y_bnd1 (fun r10 h10 => ?_)
  refine x_callVi C 10 [.int v1, .int (0 : Int32)] [.int ((6 : Int32) * (gI σ 0 18))] rfl tw_1611 mv_X9_ofWrite (Nat.le_of_ble_eq_true rfl) (Nat.le_of_ble_eq_true rfl) (Nat.le_of_ble_eq_true rfl) (Nat.le_of_ble_eq_true rfl) (km_0 V _) rfl dX9_doneOne_10 (c_X9_ofWrite V _ _ _ _ h10) ?_
  refine x_iadd C 13 dX9_doneOne_13 ?_
  refine x_istore_nt C 14 (fun v3_14 => [(3, .int v3_14), (0, .ref (zA (Zm V) 0)), (1, .int v1), (2, .int v2)]) dX9_doneOne_14 rfl (hN _ (Nat.le_of_ble_eq_true rfl)) (fun _ => rfl) (fun v3_14 => ?_)
  refine x_aload_n C 15 1 dX9_doneOne_15 rfl ?_
  refine x_iconst C 16 dX9_doneOne_16 ki_0 ?_
  refine fp_isBroken C 17 rfl rfl dX9_doneOne_17 (fun s_17 => ?_)
  refine x_aload_n C 20 1 dX9_doneOne_20 rfl ?_
  refine fg_changedAt C 21 dX9_doneOne_21 ?_
  refine x_iload_n C 24 3 dX9_doneOne_24 rfl ?_
  refine x_iconst C 25 dX9_doneOne_25 ki_m1 ?_
  refine x_iast C 26 (Nat.le_of_ble_eq_true rfl) (km_31 V) dX9_doneOne_26 (fun _ s_26 => ?_)
  refine x_aload_n C 27 1 dX9_doneOne_27 rfl ?_
  refine x_iload_n C 28 2 dX9_doneOne_28 rfl ?_
  refine x_iconst C 29 dX9_doneOne_29 ki_0 ?_
  refine Y_bnd2 (fun r30 s_30 h30 => ?_)
  refine x_callVi C 30 [.int v1, .int (0 : Int32)] [] rfl tw_1687 mv_X9_reckoned (Nat.le_of_ble_eq_true rfl) (Nat.le_of_ble_eq_true rfl) (Nat.le_of_ble_eq_true rfl) (Nat.le_of_ble_eq_true rfl) (km_0 V _) rfl dX9_doneOne_30 (c_X9_reckoned V _ _ _ _ h30) ?_
  refine x_istore C 33 (L' := [(4, .int r30), (3, .int v3_14), (0, .ref (zA (Zm V) 0)), (1, .int v1), (2, .int v2)]) dX9_doneOne_33 (hN _ (Nat.le_of_ble_eq_true rfl)) rfl ?_
  refine x_aload_n C 35 2 dX9_doneOne_35 rfl ?_
  refine x_iload_n C 36 3 dX9_doneOne_36 rfl ?_
  refine x_iconst C 37 dX9_doneOne_37 ki_1 ?_
  refine Y_bnd2 (fun r38 s_38 h38 => ?_)
  refine x_callVi C 38 [.int v1, .int (1 : Int32)] [] rfl tw_1687 mv_X9_reckoned (Nat.le_of_ble_eq_true rfl) (Nat.le_of_ble_eq_true rfl) (Nat.le_of_ble_eq_true rfl) (Nat.le_of_ble_eq_true rfl) (km_0 V _) rfl dX9_doneOne_38 (c_X9_reckoned V _ _ _ _ h38) ?_
  refine x_istore C 41 (L' := [(5, .int r38), (4, .int r30), (3, .int v3_14), (0, .ref (zA (Zm V) 0)), (1, .int v1), (2, .int v2)]) dX9_doneOne_41 (hN _ (Nat.le_of_ble_eq_true rfl)) rfl ?_
  refine x_aload_n C 43 3 dX9_doneOne_43 rfl ?_
  refine fg_isBroken C 44 dX9_doneOne_44 ?_
  refine x_if_eq C 47 52 dX9_doneOne_47 (by decide) (fun _ => ?_) (fun _ => ?_)
  · refine x_aload_n C 52 3 dX9_doneOne_52 rfl ?_
    refine fg_formSign C 53 dX9_doneOne_53 ?_
    refine x_iload_n C 56 2 dX9_doneOne_56 rfl ?_
    refine x_iald C 57 (Nat.le_of_ble_eq_true rfl) (km_15 V _) dX9_doneOne_57 (fun _ => ?_)
    refine x_bipush C 58 dX9_doneOne_58 kb_13 ?_
    have hJ90 : ∀ (σ_90 : Wd) (v1_90 : Int32) (v2_90 : Int32) (v3_90 : Int32) (t0_90 : Int32), Y K (Zm V) (M_X9_doneOne_J90 σ_90 v1_90 v2_90 v3_90 t0_90) (fun q => q = (r, σ2)) σ_90 90 [(0, .ref (zA (Zm V) 0)), (1, .int v1_90), (2, .int v2_90), (3, .int v3_90)] [.int t0_90] := by
      intro σ_90 v1_90 v2_90 v3_90 t0_90
      unfold M_X9_doneOne_J90
      refine x_istore C 90 (L' := [(6, .int t0_90), (0, .ref (zA (Zm V) 0)), (1, .int v1_90), (2, .int v2_90), (3, .int v3_90)]) dX9_doneOne_90 (hN _ (Nat.le_of_ble_eq_true rfl)) rfl ?_
      refine x_iload C 92 0 dX9_doneOne_92 rfl ?_
      have hJ108 : ∀ (σ_108 : Wd) (v1_108 : Int32) (v2_108 : Int32) (v3_108 : Int32) (v6_108 : Int32), Y K (Zm V) (M_X9_doneOne_J108 σ_108 v1_108 v2_108 v3_108 v6_108) (fun q => q = (r, σ2)) σ_108 108 [(0, .ref (zA (Zm V) 0)), (1, .int v1_108), (2, .int v2_108), (3, .int v3_108), (6, .int v6_108)] [] := by
        intro σ_108 v1_108 v2_108 v3_108 v6_108
        unfold M_X9_doneOne_J108
        refine x_aload_n C 108 0 dX9_doneOne_108 rfl ?_
        refine x_iload_n C 109 1 dX9_doneOne_109 rfl ?_
        refine x_iload C 110 4 dX9_doneOne_110 rfl ?_
        have hJ120 : ∀ (σ_120 : Wd) (v2_120 : Int32) (v3_120 : Int32) (v6_120 : Int32) (t0_120 : Int32) (t1_120 : Int32), Y K (Zm V) (M_X9_doneOne_J120 σ_120 v2_120 v3_120 v6_120 t0_120 t1_120) (fun q => q = (r, σ2)) σ_120 120 [(0, .ref (zA (Zm V) 0)), (2, .int v2_120), (3, .int v3_120), (6, .int v6_120)] [.int t0_120, .int t1_120, .ref (zA (Zm V) 0)] := by
          intro σ_120 v2_120 v3_120 v6_120 t0_120 t1_120
          unfold M_X9_doneOne_J120
          refine Y_bnd2 (fun r120 s_120 h120 => ?_)
          refine x_callVi C 120 [.int t1_120, .int t0_120] [] rfl tw_1687 mv_X9_reckoned (Nat.le_of_ble_eq_true rfl) (Nat.le_of_ble_eq_true rfl) (Nat.le_of_ble_eq_true rfl) (Nat.le_of_ble_eq_true rfl) (km_0 V _) rfl dX9_doneOne_120 (c_X9_reckoned V _ _ _ _ h120) ?_
          refine x_istore C 123 (L' := [(7, .int r120), (0, .ref (zA (Zm V) 0)), (2, .int v2_120), (3, .int v3_120), (6, .int v6_120)]) dX9_doneOne_123 (hN _ (Nat.le_of_ble_eq_true rfl)) rfl ?_
          refine x_aload_n C 125 1 dX9_doneOne_125 rfl ?_
          refine fg_isBroken C 126 dX9_doneOne_126 ?_
          refine x_if_eq C 129 134 dX9_doneOne_129 (by decide) (fun _ => ?_) (fun _ => ?_)
          · refine x_aload_n C 134 1 dX9_doneOne_134 rfl ?_
            refine fg_changedAt C 135 dX9_doneOne_135 ?_
            refine x_iload_n C 138 2 dX9_doneOne_138 rfl ?_
            refine x_iload C 139 4 dX9_doneOne_139 rfl ?_
            have hJ159 : ∀ (σ_159 : Wd) (v2_159 : Int32) (v6_159 : Int32) (v7_159 : Int32) (t0_159 : Int32) (t1_159 : Int32), Y K (Zm V) (M_X9_doneOne_J159 σ_159 v2_159 v6_159 v7_159 t0_159 t1_159) (fun q => q = (r, σ2)) σ_159 159 [(0, .ref (zA (Zm V) 0)), (2, .int v2_159), (6, .int v6_159), (7, .int v7_159)] [.int t0_159, .int t1_159, .ref (zA (Zm V) 31)] := by
              intro σ_159 v2_159 v6_159 v7_159 t0_159 t1_159
              unfold M_X9_doneOne_J159
              refine x_iast C 159 (Nat.le_of_ble_eq_true rfl) (km_31 V) dX9_doneOne_159 (fun _ s_159 => ?_)
              refine x_aload_n C 160 0 dX9_doneOne_160 rfl ?_
              refine fg_cellNow C 161 dX9_doneOne_161 ?_
              refine x_aload_n C 164 0 dX9_doneOne_164 rfl ?_
              refine fg_changedAt C 165 dX9_doneOne_165 ?_
              refine x_iload_n C 168 1 dX9_doneOne_168 rfl ?_
              refine x_iald C 169 (Nat.le_of_ble_eq_true rfl) (km_31 V _) dX9_doneOne_169 (fun _ => ?_)
              refine x_iload C 170 3 dX9_doneOne_170 rfl ?_
              refine x_iast C 172 (Nat.le_of_ble_eq_true rfl) (km_29 V) dX9_doneOne_172 (fun _ s_172 => ?_)
              refine x_iload C 173 2 dX9_doneOne_173 rfl ?_
              refine x_if_eq C 175 182 dX9_doneOne_175 (by decide) (fun _ => ?_) (fun _ => ?_)
              · refine x_iconst C 182 dX9_doneOne_182 ki_1 ?_
                exact x_iret2 C R 183 dX9_doneOne_183
              · refine x_iconst C 178 dX9_doneOne_178 ki_0 ?_
                refine x_goto C 179 183 dX9_doneOne_179 (by decide) ?_
                exact x_iret2 C R 183 dX9_doneOne_183
            refine x_if_eq C 141 153 dX9_doneOne_141 (by decide) (fun _ => ?_) (fun _ => ?_)
            · refine x_aload_n C 153 1 dX9_doneOne_153 rfl ?_
              refine fg_formElse C 154 dX9_doneOne_154 ?_
              refine x_iload_n C 157 3 dX9_doneOne_157 rfl ?_
              refine x_iald C 158 (Nat.le_of_ble_eq_true rfl) (km_17 V _) dX9_doneOne_158 (fun _ => ?_)
              refine Y_sub [1, 2, 4, 0] rfl ?_
              exact hJ159 _ _ _ _ _ _
            · refine x_aload_n C 144 1 dX9_doneOne_144 rfl ?_
              refine fg_formSets C 145 dX9_doneOne_145 ?_
              refine x_iload_n C 148 3 dX9_doneOne_148 rfl ?_
              refine x_iald C 149 (Nat.le_of_ble_eq_true rfl) (km_16 V _) dX9_doneOne_149 (fun _ => ?_)
              refine x_goto C 150 159 dX9_doneOne_150 (by decide) ?_
              refine Y_sub [1, 2, 4, 0] rfl ?_
              exact hJ159 _ _ _ _ _ _
          · refine x_iconst C 132 dX9_doneOne_132 ki_3 ?_
            exact x_iret2 C R 133 dX9_doneOne_133
        refine x_if_eq C 112 119 dX9_doneOne_112 (by decide) (fun _ => ?_) (fun _ => ?_)
        · refine x_iconst C 119 dX9_doneOne_119 ki_3 ?_
          refine Y_sub [0, 2, 3, 4] rfl ?_
          exact hJ120 _ _ _ _ _ _
        · refine x_iconst C 115 dX9_doneOne_115 ki_2 ?_
          refine x_goto C 116 120 dX9_doneOne_116 (by decide) ?_
          refine Y_sub [0, 2, 3, 4] rfl ?_
          exact hJ120 _ _ _ _ _ _
      refine x_if_ne C 94 108 dX9_doneOne_94 (by decide) (fun _ => ?_) (fun _ => ?_)
      · refine Y_sub [1, 2, 3, 4, 0] rfl ?_
        exact hJ108 _ _ _ _ _
      · refine x_aload_n C 97 1 dX9_doneOne_97 rfl ?_
        refine fg_formElse C 98 dX9_doneOne_98 ?_
        refine x_iload_n C 101 4 dX9_doneOne_101 rfl ?_
        refine x_iald C 102 (Nat.le_of_ble_eq_true rfl) (km_17 V _) dX9_doneOne_102 (fun _ => ?_)
        refine x_if_ge C 103 108 dX9_doneOne_103 (by decide) (fun _ => ?_) (fun _ => ?_)
        · refine Y_sub [1, 2, 3, 4, 0] rfl ?_
          exact hJ108 _ _ _ _ _
        · refine x_iconst C 106 dX9_doneOne_106 ki_2 ?_
          exact x_iret2 C R 107 dX9_doneOne_107
    refine x_icmp_ne C 60 78 dX9_doneOne_60 (by decide) (fun _ => ?_) (fun _ => ?_)
    · refine x_iload C 78 1 dX9_doneOne_78 rfl ?_
      refine x_iload C 80 0 dX9_doneOne_80 rfl ?_
      refine x_icmp_ne C 82 89 dX9_doneOne_82 (by decide) (fun _ => ?_) (fun _ => ?_)
      · refine x_iconst C 89 dX9_doneOne_89 ki_0 ?_
        refine Y_sub [3, 4, 5, 2] rfl ?_
        exact hJ90 _ _ _ _ _
      · refine x_iconst C 85 dX9_doneOne_85 ki_1 ?_
        refine x_goto C 86 90 dX9_doneOne_86 (by decide) ?_
        refine Y_sub [3, 4, 5, 2] rfl ?_
        exact hJ90 _ _ _ _ _
    · refine x_iload C 63 1 dX9_doneOne_63 rfl ?_
      refine x_iload C 65 0 dX9_doneOne_65 rfl ?_
      refine x_icmp_ge C 67 74 dX9_doneOne_67 (by decide) (fun _ => ?_) (fun _ => ?_)
      · refine x_iconst C 74 dX9_doneOne_74 ki_0 ?_
        refine x_goto C 75 90 dX9_doneOne_75 (by decide) ?_
        refine Y_sub [3, 4, 5, 2] rfl ?_
        exact hJ90 _ _ _ _ _
      · refine x_iconst C 70 dX9_doneOne_70 ki_1 ?_
        refine x_goto C 71 90 dX9_doneOne_71 (by decide) ?_
        refine Y_sub [3, 4, 5, 2] rfl ?_
        exact hJ90 _ _ _ _ _
  · refine x_iconst C 50 dX9_doneOne_50 ki_3 ?_
    exact x_iret2 C R 51 dX9_doneOne_51
def M_X9_doesLog_L6 (v1 : Int32) (v2 : Int32) (σ : Wd) : Option ((Int32 × Wd) ⊕ (Wd)) :=
  if v1 ≤ v2 then (some (.inr σ)) else (chk (ib v2 60) (bnd2 (M_X9_doneOne σ (gI σ 27 (ix v2)) v2) fun r24 s_24 => chk (ib v2 60) (lt (uI s_24 30 (ix v2) r24) fun s_27 => lt (v2 + (1 : Int32)) fun v2_28 => some (.inl (v2_28, s_27)))))
def M_X9_doesLog (σ : Wd) (v1 : Int32) : Option Wd :=
  bnd1 (M_X9_firstCells σ) fun s_1 => bnd1 (iter (fun s : Int32 × Wd => M_X9_doesLog_L6 v1 s.1 s.2) FU ((0 : Int32), s_1)) (un1 fun sx_6 => (some sx_6))
set_option maxRecDepth 100000 in
set_option maxHeartbeats 4000000 in
theorem c_X9_doesLog (V : Vt) (l : Launch) (σ : Wd) (v1 : Int32) {σ2 : Wd} (h : M_X9_doesLog σ v1 = some σ2) : Ct l (Zm V) yX9_doesLog cX9_doesLog 3 none 3 78 [.ref (zA (Zm V) 0), .int v1] σ none σ2 := by
  refine Ct_intro (own := RX9) zm_ok (by decide +kernel) rfl (Nat.le_of_ble_eq_true rfl) [(0, .ref (zA (Zm V) 0)), (1, .int v1)] rfl (fun K C R hKl hnL => ?_)
  have hN := nl_of hnL
  subst hKl
  refine Y_end h ?_
  unfold M_X9_doesLog
  refine x_aload_n C 0 0 dX9_doesLog_0 rfl ?_
  refine Y_bnd1 (fun s_1 h1 => ?_)
  refine x_callVv C 1 [] [] rfl tw_1679 mv_X9_firstCells (Nat.le_of_ble_eq_true rfl) (Nat.le_of_ble_eq_true rfl) (Nat.le_of_ble_eq_true rfl) (Nat.le_of_ble_eq_true rfl) (km_0 V _) rfl dX9_doesLog_1 (c_X9_firstCells V _ _  h1) ?_
  refine x_iconst C 4 dX9_doesLog_4 ki_0 ?_
  refine x_istore_n C 5 (L' := [(2, .int (0 : Int32)), (0, .ref (zA (Zm V) 0)), (1, .int v1)]) dX9_doesLog_5 rfl (hN _ (Nat.le_of_ble_eq_true rfl)) rfl ?_
  refine Y_sub [1, 2, 0] rfl ?_
  refine x_loop 6 (fun s : Int32 × Wd => s.2) (fun s : Int32 × Wd => [(0, .ref (zA (Zm V) 0)), (1, .int v1), (2, .int s.1)]) (fun E6 hb6 hx6 s => ?_) FU ((0 : Int32), s_1)
  obtain ⟨v2_6, s_6⟩ := s
  show Y K (Zm V) (M_X9_doesLog_L6 v1 v2_6 s_6) E6 s_6 6 [(0, .ref (zA (Zm V) 0)), (1, .int v1), (2, .int v2_6)] []
  unfold M_X9_doesLog_L6
  refine x_iload_n C 6 2 dX9_doesLog_6 rfl ?_
  refine x_iload_n C 7 1 dX9_doesLog_7 rfl ?_
  refine x_icmp_ge C 8 34 dX9_doesLog_8 (by decide) (fun _ => ?_) (fun _ => ?_)
  · refine x_ex1 hx6 s_6 ?_
    exact x_vret C R 34 dX9_doesLog_34
  · refine x_aload_n C 11 0 dX9_doesLog_11 rfl ?_
    refine fg_outAt C 12 dX9_doesLog_12 ?_
    refine x_iload_n C 15 2 dX9_doesLog_15 rfl ?_
    refine x_aload_n C 16 0 dX9_doesLog_16 rfl ?_
    refine x_aload_n C 17 0 dX9_doesLog_17 rfl ?_
    refine fg_logAt C 18 dX9_doesLog_18 ?_
    refine x_iload_n C 21 2 dX9_doesLog_21 rfl ?_
    refine x_iald C 22 (Nat.le_of_ble_eq_true rfl) (km_27 V _) dX9_doesLog_22 (fun _ => ?_)
    refine x_iload_n C 23 2 dX9_doesLog_23 rfl ?_
    refine Y_bnd2 (fun r24 s_24 h24 => ?_)
    refine x_callVi C 24 [.int (gI s_6 27 (ix v2_6)), .int v2_6] [.int v2_6, .ref (zA (Zm V) 30)] rfl tw_1683 mv_X9_doneOne (Nat.le_of_ble_eq_true rfl) (Nat.le_of_ble_eq_true rfl) (Nat.le_of_ble_eq_true rfl) (Nat.le_of_ble_eq_true rfl) (km_0 V _) rfl dX9_doesLog_24 (c_X9_doneOne V _ _ _ _ h24) ?_
    refine x_iast C 27 (Nat.le_of_ble_eq_true rfl) (km_30 V) dX9_doesLog_27 (fun _ s_27 => ?_)
    refine x_iinct C 28 2 (1 : Int32) (fun v2_28 => [(2, .int v2_28), (0, .ref (zA (Zm V) 0)), (1, .int v1)]) dX9_doesLog_28 rfl ki_1 (hN _ (Nat.le_of_ble_eq_true rfl)) (fun _ => rfl) (fun v2_28 => ?_)
    refine x_goto C 31 6 dX9_doesLog_31 (by decide) ?_
    refine Y_sub [1, 2, 0] rfl ?_
    exact x_back (v2_28, s_27) (hb6 (v2_28, s_27))
def M_X9_doesAll (σ : Wd) (v1 : Int32) : Option Wd :=
  bnd1 (M_X9_fillsLog σ v1) fun s_2 => bnd1 (M_X9_doesLog s_2 (gI s_2 0 45)) fun s_10 => some s_10
set_option maxRecDepth 100000 in
set_option maxHeartbeats 4000000 in
theorem c_X9_doesAll (V : Vt) (l : Launch) (σ : Wd) (v1 : Int32) {σ2 : Wd} (h : M_X9_doesAll σ v1 = some σ2) : Ct l (Zm V) yX9_doesAll cX9_doesAll 2 none 4 100 [.ref (zA (Zm V) 0), .int v1] σ none σ2 := by
  refine Ct_intro (own := RX9) zm_ok (by decide +kernel) rfl (Nat.le_of_ble_eq_true rfl) [(0, .ref (zA (Zm V) 0)), (1, .int v1)] rfl (fun K C R hKl hnL => ?_)
  have hN := nl_of hnL
  subst hKl
  refine Y_end h ?_
  unfold M_X9_doesAll
  refine x_aload_n C 0 0 dX9_doesAll_0 rfl ?_
  refine x_iload_n C 1 1 dX9_doesAll_1 rfl ?_
  refine Y_bnd1 (fun s_2 h2 => ?_)
  refine x_callVv C 2 [.int v1] [] rfl tw_1631 mv_X9_fillsLog (Nat.le_of_ble_eq_true rfl) (Nat.le_of_ble_eq_true rfl) (Nat.le_of_ble_eq_true rfl) (Nat.le_of_ble_eq_true rfl) (km_0 V _) rfl dX9_doesAll_2 (c_X9_fillsLog V _ _ _ h2) ?_
  refine x_aload_n C 5 0 dX9_doesAll_5 rfl ?_
  refine x_aload_n C 6 0 dX9_doesAll_6 rfl ?_
  refine fg_logMany C 7 dX9_doesAll_7 ?_
  refine Y_bnd1 (fun s_10 h10 => ?_)
  refine x_callVv C 10 [.int (gI s_2 0 45)] [] rfl tw_1675 mv_X9_doesLog (Nat.le_of_ble_eq_true rfl) (Nat.le_of_ble_eq_true rfl) (Nat.le_of_ble_eq_true rfl) (Nat.le_of_ble_eq_true rfl) (km_0 V _) rfl dX9_doesAll_10 (c_X9_doesLog V _ _ _ h10) ?_
  exact x_vret C R 13 dX9_doesAll_13
def M_X9_outcomes_L5 (σ : Wd) (v1 : Int32) (v2 : Int32) (v3 : Int32) (v4 : Int32) : Option ((Int32 × Int32) ⊕ (Int32)) :=
  if (gI σ 0 45) ≤ v4 then (some (.inr v3)) else (chk (ib v4 60) (bnd1 (M_X9_in (gI σ 30 (ix v4)) v1 v2) fun r23 => if r23 = 0 then (lt (v4 + (1 : Int32)) fun v4_32 => some (.inl (v3, v4_32))) else (lt (v3 + (1 : Int32)) fun v3_29 => lt (v4 + (1 : Int32)) fun v4_32 => some (.inl (v3_29, v4_32)))))
def M_X9_outcomes (σ : Wd) (v1 : Int32) (v2 : Int32) : Option Int32 :=
  bnd1 (iter (fun s : Int32 × Int32 => M_X9_outcomes_L5 σ v1 v2 s.1 s.2) FU ((0 : Int32), (0 : Int32))) (un1 fun x3_5 => (some x3_5))
set_option maxRecDepth 100000 in
set_option maxHeartbeats 4000000 in
theorem c_X9_outcomes (V : Vt) (l : Launch) (σ : Wd) (v1 : Int32) (v2 : Int32) {r : Int32} (h : M_X9_outcomes σ v1 v2 = some r) : Ct l (Zm V) yX9_outcomes cX9_outcomes 5 (some .int) 1 22 [.ref (zA (Zm V) 0), .int v1, .int v2] σ (some (.int r)) σ := by
  refine Ct_intro (own := RX9) zm_ok (by decide +kernel) rfl (Nat.le_of_ble_eq_true rfl) [(0, .ref (zA (Zm V) 0)), (1, .int v1), (2, .int v2)] rfl (fun K C R hKl hnL => ?_)
  have hN := nl_of hnL
  subst hKl
  refine Y_end h ?_
  unfold M_X9_outcomes
  refine x_iconst C 0 dX9_outcomes_0 ki_0 ?_
  refine x_istore_n C 1 (L' := [(3, .int (0 : Int32)), (0, .ref (zA (Zm V) 0)), (1, .int v1), (2, .int v2)]) dX9_outcomes_1 rfl (hN _ (Nat.le_of_ble_eq_true rfl)) rfl ?_
  refine x_iconst C 2 dX9_outcomes_2 ki_0 ?_
  refine x_istore C 3 (L' := [(4, .int (0 : Int32)), (3, .int (0 : Int32)), (0, .ref (zA (Zm V) 0)), (1, .int v1), (2, .int v2)]) dX9_outcomes_3 (hN _ (Nat.le_of_ble_eq_true rfl)) rfl ?_
  refine Y_sub [2, 3, 4, 1, 0] rfl ?_
  refine x_loop 5 (fun s : Int32 × Int32 => σ) (fun s : Int32 × Int32 => [(0, .ref (zA (Zm V) 0)), (1, .int v1), (2, .int v2), (3, .int s.1), (4, .int s.2)]) (fun E5 hb5 hx5 s => ?_) FU ((0 : Int32), (0 : Int32))
  obtain ⟨v3_5, v4_5⟩ := s
  show Y K (Zm V) (M_X9_outcomes_L5 σ v1 v2 v3_5 v4_5) E5 σ 5 [(0, .ref (zA (Zm V) 0)), (1, .int v1), (2, .int v2), (3, .int v3_5), (4, .int v4_5)] []
  unfold M_X9_outcomes_L5
  refine x_iload C 5 4 dX9_outcomes_5 rfl ?_
  refine x_aload_n C 7 0 dX9_outcomes_7 rfl ?_
  refine fg_logMany C 8 dX9_outcomes_8 ?_
  refine x_icmp_ge C 11 38 dX9_outcomes_11 (by decide) (fun _ => ?_) (fun _ => ?_)
  · refine x_ex1 hx5 v3_5 ?_
    refine x_iload_n C 38 3 dX9_outcomes_38 rfl ?_
    exact x_iret1 C R 39 dX9_outcomes_39
  · refine x_aload_n C 14 0 dX9_outcomes_14 rfl ?_
    refine fg_outAt C 15 dX9_outcomes_15 ?_
    refine x_iload C 18 4 dX9_outcomes_18 rfl ?_
    refine x_iald C 20 (Nat.le_of_ble_eq_true rfl) (km_30 V _) dX9_outcomes_20 (fun _ => ?_)
    refine x_iload_n C 21 1 dX9_outcomes_21 rfl ?_
    refine x_iload_n C 22 2 dX9_outcomes_22 rfl ?_
    refine Y_bnd1 (fun r23 h23 => ?_)
    refine x_callSi C 23 [.int (gI σ 30 (ix v4_5)), .int v1, .int v2] [] rfl tw_1572 ms_X9_in (Nat.le_of_ble_eq_true rfl) (Nat.le_of_ble_eq_true rfl) (Nat.le_of_ble_eq_true rfl) dX9_outcomes_23 (c_X9_in V _ _ _ _ _ h23) ?_
    refine x_if_eq C 26 32 dX9_outcomes_26 (by decide) (fun _ => ?_) (fun _ => ?_)
    · refine x_iinct C 32 4 (1 : Int32) (fun v4_32 => [(4, .int v4_32), (0, .ref (zA (Zm V) 0)), (1, .int v1), (2, .int v2), (3, .int v3_5)]) dX9_outcomes_32 rfl ki_1 (hN _ (Nat.le_of_ble_eq_true rfl)) (fun _ => rfl) (fun v4_32 => ?_)
      refine x_goto C 35 5 dX9_outcomes_35 (by decide) ?_
      refine Y_sub [1, 2, 3, 4, 0] rfl ?_
      exact x_back (v3_5, v4_32) (hb5 (v3_5, v4_32))
    · refine x_iinct C 29 3 (1 : Int32) (fun v3_29 => [(3, .int v3_29), (0, .ref (zA (Zm V) 0)), (1, .int v1), (2, .int v2), (4, .int v4_5)]) dX9_outcomes_29 rfl ki_1 (hN _ (Nat.le_of_ble_eq_true rfl)) (fun _ => rfl) (fun v3_29 => ?_)
      refine x_iinct C 32 4 (1 : Int32) (fun v4_32 => [(4, .int v4_32), (3, .int v3_29), (0, .ref (zA (Zm V) 0)), (1, .int v1), (2, .int v2)]) dX9_outcomes_32 rfl ki_1 (hN _ (Nat.le_of_ble_eq_true rfl)) (fun _ => rfl) (fun v4_32 => ?_)
      refine x_goto C 35 5 dX9_outcomes_35 (by decide) ?_
      refine Y_sub [2, 3, 4, 1, 0] rfl ?_
      exact x_back (v3_29, v4_32) (hb5 (v3_29, v4_32))
def M_X9_opens (σ : Wd) (v1 : Int32) : Option Wd :=
  bnd1 (M_X9_adds σ v1 (3 : Int32) (1 : Int32)) fun s_4 => some s_4
set_option maxRecDepth 100000 in
set_option maxHeartbeats 4000000 in
theorem c_X9_opens (V : Vt) (l : Launch) (σ : Wd) (v1 : Int32) {σ2 : Wd} (h : M_X9_opens σ v1 = some σ2) : Ct l (Zm V) yX9_opens cX9_opens 2 none 1 23 [.ref (zA (Zm V) 0), .int v1] σ none σ2 := by
  refine Ct_intro (own := RX9) zm_ok (by decide +kernel) rfl (Nat.le_of_ble_eq_true rfl) [(0, .ref (zA (Zm V) 0)), (1, .int v1)] rfl (fun K C R hKl hnL => ?_)
  have hN := nl_of hnL
  subst hKl
  refine Y_end h ?_
  unfold M_X9_opens
  refine x_aload_n C 0 0 dX9_opens_0 rfl ?_
  refine x_iload_n C 1 1 dX9_opens_1 rfl ?_
  refine x_iconst C 2 dX9_opens_2 ki_3 ?_
  refine x_iconst C 3 dX9_opens_3 ki_1 ?_
  refine Y_bnd1 (fun s_4 h4 => ?_)
  refine x_callVv C 4 [.int v1, .int (3 : Int32), .int (1 : Int32)] [] rfl tw_1587 mv_X9_adds (Nat.le_of_ble_eq_true rfl) (Nat.le_of_ble_eq_true rfl) (Nat.le_of_ble_eq_true rfl) (Nat.le_of_ble_eq_true rfl) (km_0 V _) rfl dX9_opens_4 (c_X9_adds V _ _ _ _ _ h4) ?_
  exact x_vret C R 7 dX9_opens_7
def M_X9_shuts_L10 (v1 : Int32) (v2 : Int32) (σ : Wd) : Option ((Int32 × Wd) ⊕ (Wd)) :=
  if v2 ≤ 0 then (some (.inr σ)) else (chk (ib (((5 : Int32) + v2) - (1 : Int32)) 770) (chk (ib ((5 : Int32) + v2) 770) (lt (uI σ 26 (ix ((5 : Int32) + v2)) (gI σ 26 (ix (((5 : Int32) + v2) - (1 : Int32))))) fun s_31 => lt (v2 + (-1 : Int32)) fun v2_32 => some (.inl (v2_32, s_31)))))
def M_X9_shuts (σ : Wd) (v1 : Int32) : Option Wd :=
  bnd1 (M_X9_adds σ v1 (4 : Int32) (1 : Int32)) fun s_4 => bnd1 (iter (fun s : Int32 × Wd => M_X9_shuts_L10 v1 s.1 s.2) FU ((7 : Int32), s_4)) (un1 fun sx_10 => (chk (ib (5 : Int32) 770) (lt (uI sx_10 26 (ix (5 : Int32)) v1) fun s_44 => chk (ib (4 : Int32) 770) (if (8 : Int32) ≤ (gI s_44 26 (ix (4 : Int32))) then (some s_44) else (chk (ib (4 : Int32) 770) (chk (ib (4 : Int32) 770) (lt (uI s_44 26 (ix (4 : Int32)) ((gI s_44 26 (ix (4 : Int32))) + (1 : Int32))) fun s_65 => some s_65)))))))
set_option maxRecDepth 100000 in
set_option maxHeartbeats 4000000 in
theorem c_X9_shuts (V : Vt) (l : Launch) (σ : Wd) (v1 : Int32) {σ2 : Wd} (h : M_X9_shuts σ v1 = some σ2) : Ct l (Zm V) yX9_shuts cX9_shuts 3 none 1 23 [.ref (zA (Zm V) 0), .int v1] σ none σ2 := by
  refine Ct_intro (own := RX9) zm_ok (by decide +kernel) rfl (Nat.le_of_ble_eq_true rfl) [(0, .ref (zA (Zm V) 0)), (1, .int v1)] rfl (fun K C R hKl hnL => ?_)
  have hN := nl_of hnL
  subst hKl
  refine Y_end h ?_
  unfold M_X9_shuts
  refine x_aload_n C 0 0 dX9_shuts_0 rfl ?_
  refine x_iload_n C 1 1 dX9_shuts_1 rfl ?_
  refine x_iconst C 2 dX9_shuts_2 ki_4 ?_
  refine x_iconst C 3 dX9_shuts_3 ki_1 ?_
  refine Y_bnd1 (fun s_4 h4 => ?_)
  refine x_callVv C 4 [.int v1, .int (4 : Int32), .int (1 : Int32)] [] rfl tw_1587 mv_X9_adds (Nat.le_of_ble_eq_true rfl) (Nat.le_of_ble_eq_true rfl) (Nat.le_of_ble_eq_true rfl) (Nat.le_of_ble_eq_true rfl) (km_0 V _) rfl dX9_shuts_4 (c_X9_adds V _ _ _ _ _ h4) ?_
  refine x_bipush C 7 dX9_shuts_7 kb_7 ?_
  refine x_istore_n C 9 (L' := [(2, .int (7 : Int32)), (0, .ref (zA (Zm V) 0)), (1, .int v1)]) dX9_shuts_9 rfl (hN _ (Nat.le_of_ble_eq_true rfl)) rfl ?_
  refine Y_sub [1, 2, 0] rfl ?_
  refine x_loop 10 (fun s : Int32 × Wd => s.2) (fun s : Int32 × Wd => [(0, .ref (zA (Zm V) 0)), (1, .int v1), (2, .int s.1)]) (fun E10 hb10 hx10 s => ?_) FU ((7 : Int32), s_4)
  obtain ⟨v2_10, s_10⟩ := s
  show Y K (Zm V) (M_X9_shuts_L10 v1 v2_10 s_10) E10 s_10 10 [(0, .ref (zA (Zm V) 0)), (1, .int v1), (2, .int v2_10)] []
  unfold M_X9_shuts_L10
  refine x_iload_n C 10 2 dX9_shuts_10 rfl ?_
  refine x_if_le C 11 38 dX9_shuts_11 (by decide) (fun _ => ?_) (fun _ => ?_)
  · refine x_ex1 hx10 s_10 ?_
    refine x_aload_n C 38 0 dX9_shuts_38 rfl ?_
    refine fg_row C 39 dX9_shuts_39 ?_
    refine x_iconst C 42 dX9_shuts_42 ki_5 ?_
    refine x_iload_n C 43 1 dX9_shuts_43 rfl ?_
    refine x_iast C 44 (Nat.le_of_ble_eq_true rfl) (km_26 V) dX9_shuts_44 (fun _ s_44 => ?_)
    refine x_aload_n C 45 0 dX9_shuts_45 rfl ?_
    refine fg_row C 46 dX9_shuts_46 ?_
    refine x_iconst C 49 dX9_shuts_49 ki_4 ?_
    refine x_iald C 50 (Nat.le_of_ble_eq_true rfl) (km_26 V _) dX9_shuts_50 (fun _ => ?_)
    refine x_bipush C 51 dX9_shuts_51 kb_8 ?_
    refine x_icmp_ge C 53 66 dX9_shuts_53 (by decide) (fun _ => ?_) (fun _ => ?_)
    · exact x_vret C R 66 dX9_shuts_66
    · refine x_aload_n C 56 0 dX9_shuts_56 rfl ?_
      refine fg_row C 57 dX9_shuts_57 ?_
      refine x_iconst C 60 dX9_shuts_60 ki_4 ?_
      refine x_dup2 C 61 dX9_shuts_61 rfl rfl ?_
      refine x_iald C 62 (Nat.le_of_ble_eq_true rfl) (km_26 V _) dX9_shuts_62 (fun _ => ?_)
      refine x_iconst C 63 dX9_shuts_63 ki_1 ?_
      refine x_iadd C 64 dX9_shuts_64 ?_
      refine x_iast C 65 (Nat.le_of_ble_eq_true rfl) (km_26 V) dX9_shuts_65 (fun _ s_65 => ?_)
      exact x_vret C R 66 dX9_shuts_66
  · refine x_aload_n C 14 0 dX9_shuts_14 rfl ?_
    refine fg_row C 15 dX9_shuts_15 ?_
    refine x_iconst C 18 dX9_shuts_18 ki_5 ?_
    refine x_iload_n C 19 2 dX9_shuts_19 rfl ?_
    refine x_iadd C 20 dX9_shuts_20 ?_
    refine x_aload_n C 21 0 dX9_shuts_21 rfl ?_
    refine fg_row C 22 dX9_shuts_22 ?_
    refine x_iconst C 25 dX9_shuts_25 ki_5 ?_
    refine x_iload_n C 26 2 dX9_shuts_26 rfl ?_
    refine x_iadd C 27 dX9_shuts_27 ?_
    refine x_iconst C 28 dX9_shuts_28 ki_1 ?_
    refine x_isub C 29 dX9_shuts_29 ?_
    refine x_iald C 30 (Nat.le_of_ble_eq_true rfl) (km_26 V _) dX9_shuts_30 (fun _ => ?_)
    refine x_iast C 31 (Nat.le_of_ble_eq_true rfl) (km_26 V) dX9_shuts_31 (fun _ s_31 => ?_)
    refine x_iinct C 32 2 (-1 : Int32) (fun v2_32 => [(2, .int v2_32), (0, .ref (zA (Zm V) 0)), (1, .int v1)]) dX9_shuts_32 rfl ki_m1 (hN _ (Nat.le_of_ble_eq_true rfl)) (fun _ => rfl) (fun v2_32 => ?_)
    refine x_goto C 35 10 dX9_shuts_35 (by decide) ?_
    refine Y_sub [1, 2, 0] rfl ?_
    exact x_back (v2_32, s_31) (hb10 (v2_32, s_31))
def M_X9_gives_L12 (v1 : Int32) (v2 : Int32) (σ : Wd) : Option ((Int32 × Wd) ⊕ (Wd)) :=
  if (gI σ 0 45) ≤ v2 then (some (.inr σ)) else (chk (ib (1 : Int32) 770) (chk (ib v2 60) (chk (ib ((410 : Int32) + (gI σ 26 (ix (1 : Int32)))) 770) (lt (uI σ 26 (ix ((410 : Int32) + (gI σ 26 (ix (1 : Int32))))) (gI σ 27 (ix v2))) fun s_40 => chk (ib v2 60) (chk (ib (1 : Int32) 770) (chk (ib (((110 : Int32) + ((5 : Int32) * (gI s_40 27 (ix v2)))) + (4 : Int32)) 770) (lt (uI s_40 26 (ix (((110 : Int32) + ((5 : Int32) * (gI s_40 27 (ix v2)))) + (4 : Int32))) (gI s_40 26 (ix (1 : Int32)))) fun s_64 => chk (ib (1 : Int32) 770) (chk (ib (1 : Int32) 770) (lt (uI s_64 26 (ix (1 : Int32)) ((gI s_64 26 (ix (1 : Int32))) + (1 : Int32))) fun s_74 => lt (v2 + (1 : Int32)) fun v2_75 => some (.inl (v2_75, s_74)))))))))))
def M_X9_gives (σ : Wd) (v1 : Int32) : Option Wd :=
  bnd1 (M_X9_fillsLog σ v1) fun s_2 => bnd1 (M_X9_ofCopy s_2 v1 (0 : Int32)) fun r8 => bnd1 (iter (fun s : Int32 × Wd => M_X9_gives_L12 v1 s.1 s.2) FU (r8, s_2)) (un1 fun sx_12 => (chk (ib (1 : Int32) 770) (chk (ib (((15 : Int32) + ((6 : Int32) * v1)) + (0 : Int32)) 770) (lt (uI sx_12 26 (ix (((15 : Int32) + ((6 : Int32) * v1)) + (0 : Int32))) (gI sx_12 26 (ix (1 : Int32)))) fun s_100 => some s_100))))
set_option maxRecDepth 100000 in
set_option maxHeartbeats 4000000 in
theorem c_X9_gives (V : Vt) (l : Launch) (σ : Wd) (v1 : Int32) {σ2 : Wd} (h : M_X9_gives σ v1 = some σ2) : Ct l (Zm V) yX9_gives cX9_gives 3 none 3 70 [.ref (zA (Zm V) 0), .int v1] σ none σ2 := by
  refine Ct_intro (own := RX9) zm_ok (by decide +kernel) rfl (Nat.le_of_ble_eq_true rfl) [(0, .ref (zA (Zm V) 0)), (1, .int v1)] rfl (fun K C R hKl hnL => ?_)
  have hN := nl_of hnL
  subst hKl
  refine Y_end h ?_
  unfold M_X9_gives
  refine x_aload_n C 0 0 dX9_gives_0 rfl ?_
  refine x_iload_n C 1 1 dX9_gives_1 rfl ?_
  refine Y_bnd1 (fun s_2 h2 => ?_)
  refine x_callVv C 2 [.int v1] [] rfl tw_1631 mv_X9_fillsLog (Nat.le_of_ble_eq_true rfl) (Nat.le_of_ble_eq_true rfl) (Nat.le_of_ble_eq_true rfl) (Nat.le_of_ble_eq_true rfl) (km_0 V _) rfl dX9_gives_2 (c_X9_fillsLog V _ _ _ h2) ?_
  refine x_aload_n C 5 0 dX9_gives_5 rfl ?_
  refine x_iload_n C 6 1 dX9_gives_6 rfl ?_
  refine x_iconst C 7 dX9_gives_7 ki_0 ?_
  refine Y_bnd1 (fun r8 h8 => ?_)
  refine x_callVi C 8 [.int v1, .int (0 : Int32)] [] rfl tw_1635 mv_X9_ofCopy (Nat.le_of_ble_eq_true rfl) (Nat.le_of_ble_eq_true rfl) (Nat.le_of_ble_eq_true rfl) (Nat.le_of_ble_eq_true rfl) (km_0 V _) rfl dX9_gives_8 (c_X9_ofCopy V _ _ _ _ h8) ?_
  refine x_istore_n C 11 (L' := [(2, .int r8), (0, .ref (zA (Zm V) 0)), (1, .int v1)]) dX9_gives_11 rfl (hN _ (Nat.le_of_ble_eq_true rfl)) rfl ?_
  refine Y_sub [1, 2, 0] rfl ?_
  refine x_loop 12 (fun s : Int32 × Wd => s.2) (fun s : Int32 × Wd => [(0, .ref (zA (Zm V) 0)), (1, .int v1), (2, .int s.1)]) (fun E12 hb12 hx12 s => ?_) FU (r8, s_2)
  obtain ⟨v2_12, s_12⟩ := s
  show Y K (Zm V) (M_X9_gives_L12 v1 v2_12 s_12) E12 s_12 12 [(0, .ref (zA (Zm V) 0)), (1, .int v1), (2, .int v2_12)] []
  unfold M_X9_gives_L12
  refine x_iload_n C 12 2 dX9_gives_12 rfl ?_
  refine x_aload_n C 13 0 dX9_gives_13 rfl ?_
  refine fg_logMany C 14 dX9_gives_14 ?_
  refine x_icmp_ge C 17 81 dX9_gives_17 (by decide) (fun _ => ?_) (fun _ => ?_)
  · refine x_ex1 hx12 s_12 ?_
    refine x_aload_n C 81 0 dX9_gives_81 rfl ?_
    refine fg_row C 82 dX9_gives_82 ?_
    refine x_bipush C 85 dX9_gives_85 kb_15 ?_
    refine x_bipush C 87 dX9_gives_87 kb_6 ?_
    refine x_iload_n C 89 1 dX9_gives_89 rfl ?_
    refine x_imul C 90 dX9_gives_90 ?_
    refine x_iadd C 91 dX9_gives_91 ?_
    refine x_iconst C 92 dX9_gives_92 ki_0 ?_
    refine x_iadd C 93 dX9_gives_93 ?_
    refine x_aload_n C 94 0 dX9_gives_94 rfl ?_
    refine fg_row C 95 dX9_gives_95 ?_
    refine x_iconst C 98 dX9_gives_98 ki_1 ?_
    refine x_iald C 99 (Nat.le_of_ble_eq_true rfl) (km_26 V _) dX9_gives_99 (fun _ => ?_)
    refine x_iast C 100 (Nat.le_of_ble_eq_true rfl) (km_26 V) dX9_gives_100 (fun _ s_100 => ?_)
    exact x_vret C R 101 dX9_gives_101
  · refine x_aload_n C 20 0 dX9_gives_20 rfl ?_
    refine fg_row C 21 dX9_gives_21 ?_
    refine x_sipush C 24 dX9_gives_24 ks_410 ?_
    refine x_aload_n C 27 0 dX9_gives_27 rfl ?_
    refine fg_row C 28 dX9_gives_28 ?_
    refine x_iconst C 31 dX9_gives_31 ki_1 ?_
    refine x_iald C 32 (Nat.le_of_ble_eq_true rfl) (km_26 V _) dX9_gives_32 (fun _ => ?_)
    refine x_iadd C 33 dX9_gives_33 ?_
    refine x_aload_n C 34 0 dX9_gives_34 rfl ?_
    refine fg_logAt C 35 dX9_gives_35 ?_
    refine x_iload_n C 38 2 dX9_gives_38 rfl ?_
    refine x_iald C 39 (Nat.le_of_ble_eq_true rfl) (km_27 V _) dX9_gives_39 (fun _ => ?_)
    refine x_iast C 40 (Nat.le_of_ble_eq_true rfl) (km_26 V) dX9_gives_40 (fun _ s_40 => ?_)
    refine x_aload_n C 41 0 dX9_gives_41 rfl ?_
    refine fg_row C 42 dX9_gives_42 ?_
    refine x_bipush C 45 dX9_gives_45 kb_110 ?_
    refine x_iconst C 47 dX9_gives_47 ki_5 ?_
    refine x_aload_n C 48 0 dX9_gives_48 rfl ?_
    refine fg_logAt C 49 dX9_gives_49 ?_
    refine x_iload_n C 52 2 dX9_gives_52 rfl ?_
    refine x_iald C 53 (Nat.le_of_ble_eq_true rfl) (km_27 V _) dX9_gives_53 (fun _ => ?_)
    refine x_imul C 54 dX9_gives_54 ?_
    refine x_iadd C 55 dX9_gives_55 ?_
    refine x_iconst C 56 dX9_gives_56 ki_4 ?_
    refine x_iadd C 57 dX9_gives_57 ?_
    refine x_aload_n C 58 0 dX9_gives_58 rfl ?_
    refine fg_row C 59 dX9_gives_59 ?_
    refine x_iconst C 62 dX9_gives_62 ki_1 ?_
    refine x_iald C 63 (Nat.le_of_ble_eq_true rfl) (km_26 V _) dX9_gives_63 (fun _ => ?_)
    refine x_iast C 64 (Nat.le_of_ble_eq_true rfl) (km_26 V) dX9_gives_64 (fun _ s_64 => ?_)
    refine x_aload_n C 65 0 dX9_gives_65 rfl ?_
    refine fg_row C 66 dX9_gives_66 ?_
    refine x_iconst C 69 dX9_gives_69 ki_1 ?_
    refine x_dup2 C 70 dX9_gives_70 rfl rfl ?_
    refine x_iald C 71 (Nat.le_of_ble_eq_true rfl) (km_26 V _) dX9_gives_71 (fun _ => ?_)
    refine x_iconst C 72 dX9_gives_72 ki_1 ?_
    refine x_iadd C 73 dX9_gives_73 ?_
    refine x_iast C 74 (Nat.le_of_ble_eq_true rfl) (km_26 V) dX9_gives_74 (fun _ s_74 => ?_)
    refine x_iinct C 75 2 (1 : Int32) (fun v2_75 => [(2, .int v2_75), (0, .ref (zA (Zm V) 0)), (1, .int v1)]) dX9_gives_75 rfl ki_1 (hN _ (Nat.le_of_ble_eq_true rfl)) (fun _ => rfl) (fun v2_75 => ?_)
    refine x_goto C 78 12 dX9_gives_78 (by decide) ?_
    refine Y_sub [1, 2, 0] rfl ?_
    exact x_back (v2_75, s_74) (hb12 (v2_75, s_74))
def M_X9_brings_L5 (v1 : Int32) (v2 : Int32) (v3 : Int32) (v4 : Int32) (σ : Wd) : Option ((Int32 × Int32 × Wd) ⊕ (Int32 × Wd)) :=
  chk (ib (0 : Int32) 770) (if (gI σ 26 (ix (0 : Int32))) ≤ v4 then (some (.inr (v3, σ))) else (bnd1 (M_X9_doesHave σ v1 v4) fun r20 => if r20 = 0 then (lt (v4 + (1 : Int32)) fun v4_58 => some (.inl (v3, v4_58, σ))) else (bnd1 (M_X9_doesHave σ v2 v4) fun r30 => if r30 = 0 then (chk (ib (((470 : Int32) + ((60 : Int32) * v2)) + v4) 770) (lt (uI σ 26 (ix (((470 : Int32) + ((60 : Int32) * v2)) + v4)) (1 : Int32)) fun s_55 => lt (v4 + (1 : Int32)) fun v4_58 => some (.inl ((1 : Int32), v4_58, s_55)))) else (lt (v4 + (1 : Int32)) fun v4_58 => some (.inl (v3, v4_58, σ))))))
def M_X9_brings (σ : Wd) (v1 : Int32) (v2 : Int32) : Option (Int32 × Wd) :=
  bnd1 (iter (fun s : Int32 × Int32 × Wd => M_X9_brings_L5 v1 v2 s.1 s.2.1 s.2.2) FU ((0 : Int32), (0 : Int32), σ)) (un2 fun x3_5 sx_5 => (chk (zb x3_5) (some (x3_5, sx_5))))
set_option maxRecDepth 100000 in
set_option maxHeartbeats 4000000 in
theorem c_X9_brings (V : Vt) (l : Launch) (σ : Wd) (v1 : Int32) (v2 : Int32) {r : Int32} {σ2 : Wd} (h : M_X9_brings σ v1 v2 = some (r, σ2)) : Ct l (Zm V) yX9_brings cX9_brings 5 (some .boolean) 1 22 [.ref (zA (Zm V) 0), .int v1, .int v2] σ (some (.int r)) σ2 := by
  refine Ct_intro (own := RX9) zm_ok (by decide +kernel) rfl (Nat.le_of_ble_eq_true rfl) [(0, .ref (zA (Zm V) 0)), (1, .int v1), (2, .int v2)] rfl (fun K C R hKl hnL => ?_)
  have hN := nl_of hnL
  subst hKl
  refine Y_end h ?_
  unfold M_X9_brings
  refine x_iconst C 0 dX9_brings_0 ki_0 ?_
  refine x_istore_n C 1 (L' := [(3, .int (0 : Int32)), (0, .ref (zA (Zm V) 0)), (1, .int v1), (2, .int v2)]) dX9_brings_1 rfl (hN _ (Nat.le_of_ble_eq_true rfl)) rfl ?_
  refine x_iconst C 2 dX9_brings_2 ki_0 ?_
  refine x_istore C 3 (L' := [(4, .int (0 : Int32)), (3, .int (0 : Int32)), (0, .ref (zA (Zm V) 0)), (1, .int v1), (2, .int v2)]) dX9_brings_3 (hN _ (Nat.le_of_ble_eq_true rfl)) rfl ?_
  refine Y_sub [2, 3, 4, 1, 0] rfl ?_
  refine x_loop 5 (fun s : Int32 × Int32 × Wd => s.2.2) (fun s : Int32 × Int32 × Wd => [(0, .ref (zA (Zm V) 0)), (1, .int v1), (2, .int v2), (3, .int s.1), (4, .int s.2.1)]) (fun E5 hb5 hx5 s => ?_) FU ((0 : Int32), (0 : Int32), σ)
  obtain ⟨v3_5, v4_5, s_5⟩ := s
  show Y K (Zm V) (M_X9_brings_L5 v1 v2 v3_5 v4_5 s_5) E5 s_5 5 [(0, .ref (zA (Zm V) 0)), (1, .int v1), (2, .int v2), (3, .int v3_5), (4, .int v4_5)] []
  unfold M_X9_brings_L5
  refine x_iload C 5 4 dX9_brings_5 rfl ?_
  refine x_aload_n C 7 0 dX9_brings_7 rfl ?_
  refine fg_row C 8 dX9_brings_8 ?_
  refine x_iconst C 11 dX9_brings_11 ki_0 ?_
  refine x_iald C 12 (Nat.le_of_ble_eq_true rfl) (km_26 V _) dX9_brings_12 (fun _ => ?_)
  refine x_icmp_ge C 13 64 dX9_brings_13 (by decide) (fun _ => ?_) (fun _ => ?_)
  · refine x_ex2 hx5 v3_5 s_5 ?_
    refine x_iload_n C 64 3 dX9_brings_64 rfl ?_
    refine Y_chk (fun hzb => ?_)
    exact x_zret2 C R 65 (hz01 := zb_nar hzb) dX9_brings_65
  · refine x_aload_n C 16 0 dX9_brings_16 rfl ?_
    refine x_iload_n C 17 1 dX9_brings_17 rfl ?_
    refine x_iload C 18 4 dX9_brings_18 rfl ?_
    refine Y_bnd1 (fun r20 h20 => ?_)
    refine x_callVi C 20 [.int v1, .int v4_5] [] rfl tw_1607 mv_X9_doesHave (Nat.le_of_ble_eq_true rfl) (Nat.le_of_ble_eq_true rfl) (Nat.le_of_ble_eq_true rfl) (Nat.le_of_ble_eq_true rfl) (km_0 V _) rfl dX9_brings_20 (c_X9_doesHave V _ _ _ _ h20) ?_
    refine x_if_eq C 23 58 dX9_brings_23 (by decide) (fun _ => ?_) (fun _ => ?_)
    · refine x_iinct C 58 4 (1 : Int32) (fun v4_58 => [(4, .int v4_58), (0, .ref (zA (Zm V) 0)), (1, .int v1), (2, .int v2), (3, .int v3_5)]) dX9_brings_58 rfl ki_1 (hN _ (Nat.le_of_ble_eq_true rfl)) (fun _ => rfl) (fun v4_58 => ?_)
      refine x_goto C 61 5 dX9_brings_61 (by decide) ?_
      refine Y_sub [1, 2, 3, 4, 0] rfl ?_
      exact x_back (v3_5, v4_58, s_5) (hb5 (v3_5, v4_58, s_5))
    · refine x_aload_n C 26 0 dX9_brings_26 rfl ?_
      refine x_iload_n C 27 2 dX9_brings_27 rfl ?_
      refine x_iload C 28 4 dX9_brings_28 rfl ?_
      refine Y_bnd1 (fun r30 h30 => ?_)
      refine x_callVi C 30 [.int v2, .int v4_5] [] rfl tw_1607 mv_X9_doesHave (Nat.le_of_ble_eq_true rfl) (Nat.le_of_ble_eq_true rfl) (Nat.le_of_ble_eq_true rfl) (Nat.le_of_ble_eq_true rfl) (km_0 V _) rfl dX9_brings_30 (c_X9_doesHave V _ _ _ _ h30) ?_
      refine x_if_eq C 33 39 dX9_brings_33 (by decide) (fun _ => ?_) (fun _ => ?_)
      · refine x_aload_n C 39 0 dX9_brings_39 rfl ?_
        refine fg_row C 40 dX9_brings_40 ?_
        refine x_sipush C 43 dX9_brings_43 ks_470 ?_
        refine x_bipush C 46 dX9_brings_46 kb_60 ?_
        refine x_iload_n C 48 2 dX9_brings_48 rfl ?_
        refine x_imul C 49 dX9_brings_49 ?_
        refine x_iadd C 50 dX9_brings_50 ?_
        refine x_iload C 51 4 dX9_brings_51 rfl ?_
        refine x_iadd C 53 dX9_brings_53 ?_
        refine x_iconst C 54 dX9_brings_54 ki_1 ?_
        refine x_iast C 55 (Nat.le_of_ble_eq_true rfl) (km_26 V) dX9_brings_55 (fun _ s_55 => ?_)
        refine x_iconst C 56 dX9_brings_56 ki_1 ?_
        refine x_istore_n C 57 (L' := [(3, .int (1 : Int32)), (0, .ref (zA (Zm V) 0)), (1, .int v1), (2, .int v2), (4, .int v4_5)]) dX9_brings_57 rfl (hN _ (Nat.le_of_ble_eq_true rfl)) rfl ?_
        refine x_iinct C 58 4 (1 : Int32) (fun v4_58 => [(4, .int v4_58), (3, .int (1 : Int32)), (0, .ref (zA (Zm V) 0)), (1, .int v1), (2, .int v2)]) dX9_brings_58 rfl ki_1 (hN _ (Nat.le_of_ble_eq_true rfl)) (fun _ => rfl) (fun v4_58 => ?_)
        refine x_goto C 61 5 dX9_brings_61 (by decide) ?_
        refine Y_sub [2, 3, 4, 1, 0] rfl ?_
        exact x_back ((1 : Int32), v4_58, s_55) (hb5 ((1 : Int32), v4_58, s_55))
      · refine x_goto C 36 58 dX9_brings_36 (by decide) ?_
        refine x_iinct C 58 4 (1 : Int32) (fun v4_58 => [(4, .int v4_58), (0, .ref (zA (Zm V) 0)), (1, .int v1), (2, .int v2), (3, .int v3_5)]) dX9_brings_58 rfl ki_1 (hN _ (Nat.le_of_ble_eq_true rfl)) (fun _ => rfl) (fun v4_58 => ?_)
        refine x_goto C 61 5 dX9_brings_61 (by decide) ?_
        refine Y_sub [1, 2, 3, 4, 0] rfl ?_
        exact x_back (v3_5, v4_58, s_5) (hb5 (v3_5, v4_58, s_5))
def M_X9_meets_J80 (σ : Wd) (v1 : Int32) (v2 : Int32) : Option (Int32 × Wd) :=
  bnd1 (M_X9_fillsLog σ v2) fun s_82 => bnd1 (M_X9_alikeLogs s_82) fun r86 => bnd1 (M_X9_adds s_82 v2 (1 : Int32) ((gI s_82 0 47) - r86)) fun s_101 => bnd1 (M_X9_adds s_101 v2 (2 : Int32) ((gI s_101 0 45) - r86)) fun s_114 => bnd1 (M_X9_shuts s_114 v1) fun s_119 => bnd1 (M_X9_shuts s_119 v2) fun s_124 => some (((gI s_124 0 47) - r86), s_124)
def M_X9_meets_J61 (σ : Wd) (v1 : Int32) (v2 : Int32) (v3 : Int32) : Option (Int32 × Wd) :=
  if v3 = 0 then (M_X9_meets_J80 σ v1 v2) else (chk (ib (2 : Int32) 770) (if v2 ≠ (gI σ 26 (ix (2 : Int32))) then (M_X9_meets_J80 σ v1 v2) else (bnd1 (M_X9_gives σ v2) fun s_77 => M_X9_meets_J80 s_77 v1 v2)))
def M_X9_meets (σ : Wd) (v1 : Int32) (v2 : Int32) : Option (Int32 × Wd) :=
  bnd1 (M_X9_opens σ v2) fun s_2 => bnd1 (M_X9_opens s_2 v1) fun s_7 => bnd1 (M_X9_fillsLog s_7 v2) fun s_12 => bnd1 (M_X9_keepsLog s_12) fun s_16 => bnd2 (M_X9_brings s_16 v1 v2) fun r22 s_22 => bnd1 (M_X9_ofCopy s_22 v1 (0 : Int32)) fun r29 => bnd1 (M_X9_ofCopy s_22 v2 (0 : Int32)) fun r35 => if r29 ≤ r35 then (M_X9_meets_J61 s_22 v1 v2 r22) else (bnd1 (M_X9_ofCopy s_22 v1 (0 : Int32)) fun r57 => chk (ib (((15 : Int32) + ((6 : Int32) * v2)) + (0 : Int32)) 770) (lt (uI s_22 26 (ix (((15 : Int32) + ((6 : Int32) * v2)) + (0 : Int32))) r57) fun s_60 => M_X9_meets_J61 s_60 v1 v2 r22))
set_option maxRecDepth 100000 in
set_option maxHeartbeats 4000000 in
theorem c_X9_meets (V : Vt) (l : Launch) (σ : Wd) (v1 : Int32) (v2 : Int32) {r : Int32} {σ2 : Wd} (h : M_X9_meets σ v1 v2 = some (r, σ2)) : Ct l (Zm V) yX9_meets cX9_meets 5 (some .int) 4 92 [.ref (zA (Zm V) 0), .int v1, .int v2] σ (some (.int r)) σ2 := by
  refine Ct_intro (own := RX9) zm_ok (by decide +kernel) rfl (Nat.le_of_ble_eq_true rfl) [(0, .ref (zA (Zm V) 0)), (1, .int v1), (2, .int v2)] rfl (fun K C R hKl hnL => ?_)
  have hN := nl_of hnL
  subst hKl
  refine Y_end h ?_
  unfold M_X9_meets
  refine x_aload_n C 0 0 dX9_meets_0 rfl ?_
  refine x_iload_n C 1 2 dX9_meets_1 rfl ?_
  refine Y_bnd1 (fun s_2 h2 => ?_)
  refine x_callVv C 2 [.int v2] [] rfl tw_1583 mv_X9_opens (Nat.le_of_ble_eq_true rfl) (Nat.le_of_ble_eq_true rfl) (Nat.le_of_ble_eq_true rfl) (Nat.le_of_ble_eq_true rfl) (km_0 V _) rfl dX9_meets_2 (c_X9_opens V _ _ _ h2) ?_
  refine x_aload_n C 5 0 dX9_meets_5 rfl ?_
  refine x_iload_n C 6 1 dX9_meets_6 rfl ?_
  refine Y_bnd1 (fun s_7 h7 => ?_)
  refine x_callVv C 7 [.int v1] [] rfl tw_1583 mv_X9_opens (Nat.le_of_ble_eq_true rfl) (Nat.le_of_ble_eq_true rfl) (Nat.le_of_ble_eq_true rfl) (Nat.le_of_ble_eq_true rfl) (km_0 V _) rfl dX9_meets_7 (c_X9_opens V _ _ _ h7) ?_
  refine x_aload_n C 10 0 dX9_meets_10 rfl ?_
  refine x_iload_n C 11 2 dX9_meets_11 rfl ?_
  refine Y_bnd1 (fun s_12 h12 => ?_)
  refine x_callVv C 12 [.int v2] [] rfl tw_1631 mv_X9_fillsLog (Nat.le_of_ble_eq_true rfl) (Nat.le_of_ble_eq_true rfl) (Nat.le_of_ble_eq_true rfl) (Nat.le_of_ble_eq_true rfl) (km_0 V _) rfl dX9_meets_12 (c_X9_fillsLog V _ _ _ h12) ?_
  refine x_aload_n C 15 0 dX9_meets_15 rfl ?_
  refine Y_bnd1 (fun s_16 h16 => ?_)
  refine x_callVv C 16 [] [] rfl tw_1715 mv_X9_keepsLog (Nat.le_of_ble_eq_true rfl) (Nat.le_of_ble_eq_true rfl) (Nat.le_of_ble_eq_true rfl) (Nat.le_of_ble_eq_true rfl) (km_0 V _) rfl dX9_meets_16 (c_X9_keepsLog V _ _  h16) ?_
  refine x_aload_n C 19 0 dX9_meets_19 rfl ?_
  refine x_iload_n C 20 1 dX9_meets_20 rfl ?_
  refine x_iload_n C 21 2 dX9_meets_21 rfl ?_
  refine Y_bnd2 (fun r22 s_22 h22 => ?_)
  refine x_callVi C 22 [.int v1, .int v2] [] rfl tw_1719 mv_X9_brings (Nat.le_of_ble_eq_true rfl) (Nat.le_of_ble_eq_true rfl) (Nat.le_of_ble_eq_true rfl) (Nat.le_of_ble_eq_true rfl) (km_0 V _) rfl dX9_meets_22 (c_X9_brings V _ _ _ _ h22) ?_
  refine x_istore_n C 25 (L' := [(3, .int r22), (0, .ref (zA (Zm V) 0)), (1, .int v1), (2, .int v2)]) dX9_meets_25 rfl (hN _ (Nat.le_of_ble_eq_true rfl)) rfl ?_
  refine x_aload_n C 26 1 dX9_meets_26 rfl ?_
  refine x_iload_n C 27 2 dX9_meets_27 rfl ?_
  refine x_iconst C 28 dX9_meets_28 ki_0 ?_
  refine Y_bnd1 (fun r29 h29 => ?_)
  refine x_callVi C 29 [.int v1, .int (0 : Int32)] [] rfl tw_1635 mv_X9_ofCopy (Nat.le_of_ble_eq_true rfl) (Nat.le_of_ble_eq_true rfl) (Nat.le_of_ble_eq_true rfl) (Nat.le_of_ble_eq_true rfl) (km_0 V _) rfl dX9_meets_29 (c_X9_ofCopy V _ _ _ _ h29) ?_
  refine x_aload_n C 32 1 dX9_meets_32 rfl ?_
  refine x_iload_n C 33 3 dX9_meets_33 rfl ?_
  refine x_iconst C 34 dX9_meets_34 ki_0 ?_
  refine Y_bnd1 (fun r35 h35 => ?_)
  refine x_callVi C 35 [.int v2, .int (0 : Int32)] [.int r29] rfl tw_1635 mv_X9_ofCopy (Nat.le_of_ble_eq_true rfl) (Nat.le_of_ble_eq_true rfl) (Nat.le_of_ble_eq_true rfl) (Nat.le_of_ble_eq_true rfl) (km_0 V _) rfl dX9_meets_35 (c_X9_ofCopy V _ _ _ _ h35) ?_
  have hJ61 : ∀ (σ_61 : Wd) (v1_61 : Int32) (v2_61 : Int32) (v3_61 : Int32), Y K (Zm V) (M_X9_meets_J61 σ_61 v1_61 v2_61 v3_61) (fun q => q = (r, σ2)) σ_61 61 [(0, .ref (zA (Zm V) 0)), (1, .int v1_61), (2, .int v2_61), (3, .int v3_61)] [] := by
    intro σ_61 v1_61 v2_61 v3_61
    unfold M_X9_meets_J61
    refine x_iload_n C 61 3 dX9_meets_61 rfl ?_
    have hJ80 : ∀ (σ_80 : Wd) (v1_80 : Int32) (v2_80 : Int32), Y K (Zm V) (M_X9_meets_J80 σ_80 v1_80 v2_80) (fun q => q = (r, σ2)) σ_80 80 [(0, .ref (zA (Zm V) 0)), (1, .int v1_80), (2, .int v2_80)] [] := by
      intro σ_80 v1_80 v2_80
      unfold M_X9_meets_J80
      refine x_aload_n C 80 0 dX9_meets_80 rfl ?_
      refine x_iload_n C 81 2 dX9_meets_81 rfl ?_
      refine Y_bnd1 (fun s_82 h82 => ?_)
      refine x_callVv C 82 [.int v2_80] [] rfl tw_1631 mv_X9_fillsLog (Nat.le_of_ble_eq_true rfl) (Nat.le_of_ble_eq_true rfl) (Nat.le_of_ble_eq_true rfl) (Nat.le_of_ble_eq_true rfl) (km_0 V _) rfl dX9_meets_82 (c_X9_fillsLog V _ _ _ h82) ?_
      refine x_aload_n C 85 0 dX9_meets_85 rfl ?_
      refine Y_bnd1 (fun r86 h86 => ?_)
      refine x_callVi C 86 [] [] rfl tw_1723 mv_X9_alikeLogs (Nat.le_of_ble_eq_true rfl) (Nat.le_of_ble_eq_true rfl) (Nat.le_of_ble_eq_true rfl) (Nat.le_of_ble_eq_true rfl) (km_0 V _) rfl dX9_meets_86 (c_X9_alikeLogs V _ _  h86) ?_
      refine x_istore C 89 (L' := [(4, .int r86), (0, .ref (zA (Zm V) 0)), (1, .int v1_80), (2, .int v2_80)]) dX9_meets_89 (hN _ (Nat.le_of_ble_eq_true rfl)) rfl ?_
      refine x_aload_n C 91 1 dX9_meets_91 rfl ?_
      refine x_iload_n C 92 3 dX9_meets_92 rfl ?_
      refine x_iconst C 93 dX9_meets_93 ki_1 ?_
      refine x_aload_n C 94 1 dX9_meets_94 rfl ?_
      refine fg_wasMany C 95 dX9_meets_95 ?_
      refine x_iload C 98 0 dX9_meets_98 rfl ?_
      refine x_isub C 100 dX9_meets_100 ?_
      refine Y_bnd1 (fun s_101 h101 => ?_)
      refine x_callVv C 101 [.int v2_80, .int (1 : Int32), .int ((gI s_82 0 47) - r86)] [] rfl tw_1587 mv_X9_adds (Nat.le_of_ble_eq_true rfl) (Nat.le_of_ble_eq_true rfl) (Nat.le_of_ble_eq_true rfl) (Nat.le_of_ble_eq_true rfl) (km_0 V _) rfl dX9_meets_101 (c_X9_adds V _ _ _ _ _ h101) ?_
      refine x_aload_n C 104 1 dX9_meets_104 rfl ?_
      refine x_iload_n C 105 3 dX9_meets_105 rfl ?_
      refine x_iconst C 106 dX9_meets_106 ki_2 ?_
      refine x_aload_n C 107 1 dX9_meets_107 rfl ?_
      refine fg_logMany C 108 dX9_meets_108 ?_
      refine x_iload C 111 0 dX9_meets_111 rfl ?_
      refine x_isub C 113 dX9_meets_113 ?_
      refine Y_bnd1 (fun s_114 h114 => ?_)
      refine x_callVv C 114 [.int v2_80, .int (2 : Int32), .int ((gI s_101 0 45) - r86)] [] rfl tw_1587 mv_X9_adds (Nat.le_of_ble_eq_true rfl) (Nat.le_of_ble_eq_true rfl) (Nat.le_of_ble_eq_true rfl) (Nat.le_of_ble_eq_true rfl) (km_0 V _) rfl dX9_meets_114 (c_X9_adds V _ _ _ _ _ h114) ?_
      refine x_aload_n C 117 1 dX9_meets_117 rfl ?_
      refine x_iload_n C 118 2 dX9_meets_118 rfl ?_
      refine Y_bnd1 (fun s_119 h119 => ?_)
      refine x_callVv C 119 [.int v1_80] [] rfl tw_1647 mv_X9_shuts (Nat.le_of_ble_eq_true rfl) (Nat.le_of_ble_eq_true rfl) (Nat.le_of_ble_eq_true rfl) (Nat.le_of_ble_eq_true rfl) (km_0 V _) rfl dX9_meets_119 (c_X9_shuts V _ _ _ h119) ?_
      refine x_aload_n C 122 1 dX9_meets_122 rfl ?_
      refine x_iload_n C 123 3 dX9_meets_123 rfl ?_
      refine Y_bnd1 (fun s_124 h124 => ?_)
      refine x_callVv C 124 [.int v2_80] [] rfl tw_1647 mv_X9_shuts (Nat.le_of_ble_eq_true rfl) (Nat.le_of_ble_eq_true rfl) (Nat.le_of_ble_eq_true rfl) (Nat.le_of_ble_eq_true rfl) (km_0 V _) rfl dX9_meets_124 (c_X9_shuts V _ _ _ h124) ?_
      refine x_aload_n C 127 1 dX9_meets_127 rfl ?_
      refine fg_wasMany C 128 dX9_meets_128 ?_
      refine x_iload C 131 0 dX9_meets_131 rfl ?_
      refine x_isub C 133 dX9_meets_133 ?_
      exact x_iret2 C R 134 dX9_meets_134
    refine x_if_eq C 62 80 dX9_meets_62 (by decide) (fun _ => ?_) (fun _ => ?_)
    · refine Y_sub [0, 1, 2] rfl ?_
      exact hJ80 _ _ _
    · refine x_iload_n C 65 2 dX9_meets_65 rfl ?_
      refine x_aload_n C 66 0 dX9_meets_66 rfl ?_
      refine fg_row C 67 dX9_meets_67 ?_
      refine x_iconst C 70 dX9_meets_70 ki_2 ?_
      refine x_iald C 71 (Nat.le_of_ble_eq_true rfl) (km_26 V _) dX9_meets_71 (fun _ => ?_)
      refine x_icmp_ne C 72 80 dX9_meets_72 (by decide) (fun _ => ?_) (fun _ => ?_)
      · refine Y_sub [0, 1, 2] rfl ?_
        exact hJ80 _ _ _
      · refine x_aload_n C 75 0 dX9_meets_75 rfl ?_
        refine x_iload_n C 76 2 dX9_meets_76 rfl ?_
        refine Y_bnd1 (fun s_77 h77 => ?_)
        refine x_callVv C 77 [.int v2_61] [] rfl tw_1627 mv_X9_gives (Nat.le_of_ble_eq_true rfl) (Nat.le_of_ble_eq_true rfl) (Nat.le_of_ble_eq_true rfl) (Nat.le_of_ble_eq_true rfl) (km_0 V _) rfl dX9_meets_77 (c_X9_gives V _ _ _ h77) ?_
        refine Y_sub [0, 1, 2] rfl ?_
        exact hJ80 _ _ _
  refine x_icmp_le C 38 61 dX9_meets_38 (by decide) (fun _ => ?_) (fun _ => ?_)
  · refine Y_sub [1, 2, 3, 0] rfl ?_
    exact hJ61 _ _ _ _
  · refine x_aload_n C 41 1 dX9_meets_41 rfl ?_
    refine fg_row C 42 dX9_meets_42 ?_
    refine x_bipush C 45 dX9_meets_45 kb_15 ?_
    refine x_bipush C 47 dX9_meets_47 kb_6 ?_
    refine x_iload_n C 49 3 dX9_meets_49 rfl ?_
    refine x_imul C 50 dX9_meets_50 ?_
    refine x_iadd C 51 dX9_meets_51 ?_
    refine x_iconst C 52 dX9_meets_52 ki_0 ?_
    refine x_iadd C 53 dX9_meets_53 ?_
    refine x_aload_n C 54 1 dX9_meets_54 rfl ?_
    refine x_iload_n C 55 2 dX9_meets_55 rfl ?_
    refine x_iconst C 56 dX9_meets_56 ki_0 ?_
    refine Y_bnd1 (fun r57 h57 => ?_)
    refine x_callVi C 57 [.int v1, .int (0 : Int32)] [.int (((15 : Int32) + ((6 : Int32) * v2)) + (0 : Int32)), .ref (zA (Zm V) 26)] rfl tw_1635 mv_X9_ofCopy (Nat.le_of_ble_eq_true rfl) (Nat.le_of_ble_eq_true rfl) (Nat.le_of_ble_eq_true rfl) (Nat.le_of_ble_eq_true rfl) (km_0 V _) rfl dX9_meets_57 (c_X9_ofCopy V _ _ _ _ h57) ?_
    refine x_iast C 60 (Nat.le_of_ble_eq_true rfl) (km_26 V) dX9_meets_60 (fun _ s_60 => ?_)
    refine Y_sub [1, 2, 3, 0] rfl ?_
    exact hJ61 _ _ _ _
def M_X9_meetsByChance (σ : Wd) : Option Wd :=
  chk (ib (3 : Int32) 770) (lt (gI σ 26 (ix (3 : Int32))) fun v1_6 => chk (ib (3 : Int32) 770) (chk (ib (3 : Int32) 770) (lt (uI σ 26 (ix (3 : Int32)) ((gI σ 26 (ix (3 : Int32))) + (1 : Int32))) fun s_16 => chk (ib (gI s_16 0 18) 2) (lt (gI s_16 10 (ix (gI s_16 0 18))) fun v2_26 => if v2_26 ≠ (1 : Int32) then (bnd1 (M_X9_lotOf s_16 ((2 : Int32) * v1_6) v2_26) fun r38 => bnd1 (M_X9_lotOf s_16 (((2 : Int32) * v1_6) + (1 : Int32)) (v2_26 - (1 : Int32))) fun r54 => chk (¬ v2_26 = 0) (lt (((r38 + (1 : Int32)) + r54) - ((r38 + (1 : Int32)) + r54) / v2_26 * v2_26) fun v4_60 => bnd2 (M_X9_meets s_16 r38 v4_60) fun r66 s_66 => some s_66)) else (some s_16)))))
set_option maxRecDepth 100000 in
set_option maxHeartbeats 4000000 in
theorem c_X9_meetsByChance (V : Vt) (l : Launch) (σ : Wd) {σ2 : Wd} (h : M_X9_meetsByChance σ = some σ2) : Ct l (Zm V) yX9_meetsByChance cX9_meetsByChance 5 none 5 116 [.ref (zA (Zm V) 0)] σ none σ2 := by
  refine Ct_intro (own := RX9) zm_ok (by decide +kernel) rfl (Nat.le_of_ble_eq_true rfl) [(0, .ref (zA (Zm V) 0))] rfl (fun K C R hKl hnL => ?_)
  have hN := nl_of hnL
  subst hKl
  refine Y_end h ?_
  unfold M_X9_meetsByChance
  refine x_aload_n C 0 0 dX9_meetsByChance_0 rfl ?_
  refine fg_row C 1 dX9_meetsByChance_1 ?_
  refine x_iconst C 4 dX9_meetsByChance_4 ki_3 ?_
  refine x_iald C 5 (Nat.le_of_ble_eq_true rfl) (km_26 V _) dX9_meetsByChance_5 (fun _ => ?_)
  refine x_istore_nt C 6 (fun v1_6 => [(1, .int v1_6), (0, .ref (zA (Zm V) 0))]) dX9_meetsByChance_6 rfl (hN _ (Nat.le_of_ble_eq_true rfl)) (fun _ => rfl) (fun v1_6 => ?_)
  refine x_aload_n C 7 1 dX9_meetsByChance_7 rfl ?_
  refine fg_row C 8 dX9_meetsByChance_8 ?_
  refine x_iconst C 11 dX9_meetsByChance_11 ki_3 ?_
  refine x_dup2 C 12 dX9_meetsByChance_12 rfl rfl ?_
  refine x_iald C 13 (Nat.le_of_ble_eq_true rfl) (km_26 V _) dX9_meetsByChance_13 (fun _ => ?_)
  refine x_iconst C 14 dX9_meetsByChance_14 ki_1 ?_
  refine x_iadd C 15 dX9_meetsByChance_15 ?_
  refine x_iast C 16 (Nat.le_of_ble_eq_true rfl) (km_26 V) dX9_meetsByChance_16 (fun _ s_16 => ?_)
  refine x_aload_n C 17 1 dX9_meetsByChance_17 rfl ?_
  refine fg_copies C 18 dX9_meetsByChance_18 ?_
  refine x_aload_n C 21 1 dX9_meetsByChance_21 rfl ?_
  refine fg_live C 22 dX9_meetsByChance_22 ?_
  refine x_iald C 25 (Nat.le_of_ble_eq_true rfl) (km_10 V _) dX9_meetsByChance_25 (fun _ => ?_)
  refine x_istore_nt C 26 (fun v2_26 => [(2, .int v2_26), (1, .int v1_6), (0, .ref (zA (Zm V) 0))]) dX9_meetsByChance_26 rfl (hN _ (Nat.le_of_ble_eq_true rfl)) (fun _ => rfl) (fun v2_26 => ?_)
  refine x_iload_n C 27 0 dX9_meetsByChance_27 rfl ?_
  refine x_iconst C 28 dX9_meetsByChance_28 ki_1 ?_
  refine x_icmp_ne C 29 33 dX9_meetsByChance_29 (by decide) (fun _ => ?_) (fun _ => ?_)
  · refine x_aload_n C 33 2 dX9_meetsByChance_33 rfl ?_
    refine x_iconst C 34 dX9_meetsByChance_34 ki_2 ?_
    refine x_iload_n C 35 1 dX9_meetsByChance_35 rfl ?_
    refine x_imul C 36 dX9_meetsByChance_36 ?_
    refine x_iload_n C 37 0 dX9_meetsByChance_37 rfl ?_
    refine Y_bnd1 (fun r38 h38 => ?_)
    refine x_callVi C 38 [.int ((2 : Int32) * v1_6), .int v2_26] [] rfl tw_1742 mv_X9_lotOf (Nat.le_of_ble_eq_true rfl) (Nat.le_of_ble_eq_true rfl) (Nat.le_of_ble_eq_true rfl) (Nat.le_of_ble_eq_true rfl) (km_0 V _) rfl dX9_meetsByChance_38 (c_X9_lotOf V _ _ _ _ h38) ?_
    refine x_istore_n C 41 (L' := [(3, .int r38), (2, .int v2_26), (1, .int v1_6), (0, .ref (zA (Zm V) 0))]) dX9_meetsByChance_41 rfl (hN _ (Nat.le_of_ble_eq_true rfl)) rfl ?_
    refine x_iload_n C 42 0 dX9_meetsByChance_42 rfl ?_
    refine x_iconst C 43 dX9_meetsByChance_43 ki_1 ?_
    refine x_iadd C 44 dX9_meetsByChance_44 ?_
    refine x_aload_n C 45 3 dX9_meetsByChance_45 rfl ?_
    refine x_iconst C 46 dX9_meetsByChance_46 ki_2 ?_
    refine x_iload_n C 47 2 dX9_meetsByChance_47 rfl ?_
    refine x_imul C 48 dX9_meetsByChance_48 ?_
    refine x_iconst C 49 dX9_meetsByChance_49 ki_1 ?_
    refine x_iadd C 50 dX9_meetsByChance_50 ?_
    refine x_iload_n C 51 1 dX9_meetsByChance_51 rfl ?_
    refine x_iconst C 52 dX9_meetsByChance_52 ki_1 ?_
    refine x_isub C 53 dX9_meetsByChance_53 ?_
    refine Y_bnd1 (fun r54 h54 => ?_)
    refine x_callVi C 54 [.int (((2 : Int32) * v1_6) + (1 : Int32)), .int (v2_26 - (1 : Int32))] [.int (r38 + (1 : Int32))] rfl tw_1742 mv_X9_lotOf (Nat.le_of_ble_eq_true rfl) (Nat.le_of_ble_eq_true rfl) (Nat.le_of_ble_eq_true rfl) (Nat.le_of_ble_eq_true rfl) (km_0 V _) rfl dX9_meetsByChance_54 (c_X9_lotOf V _ _ _ _ h54) ?_
    refine x_iadd C 57 dX9_meetsByChance_57 ?_
    refine x_iload_n C 58 1 dX9_meetsByChance_58 rfl ?_
    refine Y_chk (fun q59 => ?_)
    refine x_irem C 59 dX9_meetsByChance_59 q59 ?_
    refine x_istoret C 60 (fun v4_60 => [(4, .int v4_60), (3, .int r38), (2, .int v2_26), (1, .int v1_6), (0, .ref (zA (Zm V) 0))]) dX9_meetsByChance_60 (hN _ (Nat.le_of_ble_eq_true rfl)) (fun _ => rfl) (fun v4_60 => ?_)
    refine x_aload_n C 62 4 dX9_meetsByChance_62 rfl ?_
    refine x_iload_n C 63 1 dX9_meetsByChance_63 rfl ?_
    refine x_iload C 64 0 dX9_meetsByChance_64 rfl ?_
    refine Y_bnd2 (fun r66 s_66 h66 => ?_)
    refine x_callVi C 66 [.int r38, .int v4_60] [] rfl tw_1711 mv_X9_meets (Nat.le_of_ble_eq_true rfl) (Nat.le_of_ble_eq_true rfl) (Nat.le_of_ble_eq_true rfl) (Nat.le_of_ble_eq_true rfl) (km_0 V _) rfl dX9_meetsByChance_66 (c_X9_meets V _ _ _ _ h66) ?_
    refine x_pop C 69 dX9_meetsByChance_69 rfl ?_
    exact x_vret C R 70 dX9_meetsByChance_70
  · exact x_vret C R 32 dX9_meetsByChance_32
