/-! the class's methods: programs and contracts -/
def M_X0_push (σ : Wd) (g0 : Nat) (v1 : Int32) : Option Wd :=
  if (32 : Int32) ≤ (gI σ g0 1) then (some σ) else (chk (ib (gI σ g0 1) 32) (lt (uI σ (g0 + 1) (ix (gI σ g0 1)) v1) fun s_18 => lt (uI s_18 g0 1 ((gI s_18 g0 1) + (1 : Int32))) fun s_26 => some s_26))
set_option maxRecDepth 100000 in
set_option maxHeartbeats 4000000 in
theorem c_X0_push (V : Ct_V) (l : Launch) (σ : Wd) (g0 : Nat) (hg0 : famD g0) (v1 : Int32) {σ2 : Wd} (h : M_X0_push σ g0 v1 = some σ2) : Ct l (Zc V) yX0_push cX0_push 2 none 0 0 [.ref (zA (Zc V) g0), .int v1] σ none σ2 := by
  refine Ct_intro (own := RX0) zc_ok (by decide +kernel) rfl (Nat.le_of_ble_eq_true rfl) [(0, .ref (zA (Zc V) g0)), (1, .int v1)] rfl (fun K C R hKl hnL => ?_)
  have hN := nl_of hnL
  subst hKl
  refine Y_end h ?_
  unfold M_X0_push
  refine x_aload_n C 0 0 dX0_push_0 rfl ?_
  refine fgf_X0_44 (hg0) C 1 dX0_push_1 ?_
  refine x_bipush C 4 dX0_push_4 kb_32 ?_
  refine x_icmp_ge C 6 29 dX0_push_6 (by decide) (fun _ => ?_) (fun _ => ?_)
  · exact x_vret C R 29 dX0_push_29
  · refine x_aload_n C 9 0 dX0_push_9 rfl ?_
    refine fgf_X0_11 (hg0) C 10 dX0_push_10 ?_
    refine x_aload_n C 13 0 dX0_push_13 rfl ?_
    refine fgf_X0_44 (hg0) C 14 dX0_push_14 ?_
    refine x_iload_n C 17 1 dX0_push_17 rfl ?_
    refine x_iast C 18 (ltD_1 hg0) (kD_1 V hg0) dX0_push_18 (fun _ s_18 => ?_)
    refine x_aload_n C 19 0 dX0_push_19 rfl ?_
    refine x_dup C 20 dX0_push_20 rfl ?_
    refine fgf_X0_44 (hg0) C 21 dX0_push_21 ?_
    refine x_iconst C 24 dX0_push_24 ki_1 ?_
    refine x_iadd C 25 dX0_push_25 ?_
    refine fpf_X0_44 (hg0) C 26 dX0_push_26 (fun s_26 => ?_)
    exact x_vret C R 29 dX0_push_29
def M_X0_operate (σ : Wd) (g0 : Nat) (v1 : Int32) : Option Wd :=
  if (2 : Int32) ≤ (gI σ g0 1) then (lt (uI σ g0 1 ((gI σ g0 1) - (1 : Int32))) fun s_16 => chk (ib ((gI s_16 g0 1) - (1 : Int32)) 32) (lt (gI s_16 (g0 + 1) (ix ((gI s_16 g0 1) - (1 : Int32)))) fun v2_30 => chk (ib (gI s_16 g0 1) 32) (lt (gI s_16 (g0 + 1) (ix (gI s_16 g0 1))) fun v3_40 => if v1 ≠ (43 : Int32) then (if v1 ≠ (45 : Int32) then (if v1 ≠ (42 : Int32) then (if v3_40 ≠ 0 then (chk (¬ v3_40 = 0) (chk (ib ((gI s_16 g0 1) - (1 : Int32)) 32) (lt (uI s_16 (g0 + 1) (ix ((gI s_16 g0 1) - (1 : Int32))) (v2_30 / v3_40)) fun s_135 => some s_135))) else (lt (uI s_16 g0 2 (1 : Int32)) fun s_116 => some s_116)) else (chk (ib ((gI s_16 g0 1) - (1 : Int32)) 32) (lt (uI s_16 (g0 + 1) (ix ((gI s_16 g0 1) - (1 : Int32))) (v2_30 * v3_40)) fun s_106 => some s_106))) else (chk (ib ((gI s_16 g0 1) - (1 : Int32)) 32) (lt (uI s_16 (g0 + 1) (ix ((gI s_16 g0 1) - (1 : Int32))) (v2_30 - v3_40)) fun s_83 => some s_83))) else (chk (ib ((gI s_16 g0 1) - (1 : Int32)) 32) (lt (uI s_16 (g0 + 1) (ix ((gI s_16 g0 1) - (1 : Int32))) (v2_30 + v3_40)) fun s_60 => some s_60))))) else (some σ)
set_option maxRecDepth 100000 in
set_option maxHeartbeats 4000000 in
theorem c_X0_operate (V : Ct_V) (l : Launch) (σ : Wd) (g0 : Nat) (hg0 : famD g0) (v1 : Int32) {σ2 : Wd} (h : M_X0_operate σ g0 v1 = some σ2) : Ct l (Zc V) yX0_operate cX0_operate 4 none 0 0 [.ref (zA (Zc V) g0), .int v1] σ none σ2 := by
  refine Ct_intro (own := RX0) zc_ok (by decide +kernel) rfl (Nat.le_of_ble_eq_true rfl) [(0, .ref (zA (Zc V) g0)), (1, .int v1)] rfl (fun K C R hKl hnL => ?_)
  have hN := nl_of hnL
  subst hKl
  refine Y_end h ?_
  unfold M_X0_operate
  refine x_aload_n C 0 0 dX0_operate_0 rfl ?_
  refine fgf_X0_44 (hg0) C 1 dX0_operate_1 ?_
  refine x_iconst C 4 dX0_operate_4 ki_2 ?_
  refine x_icmp_ge C 5 9 dX0_operate_5 (by decide) (fun _ => ?_) (fun _ => ?_)
  · refine x_aload_n C 9 0 dX0_operate_9 rfl ?_
    refine x_dup C 10 dX0_operate_10 rfl ?_
    refine fgf_X0_44 (hg0) C 11 dX0_operate_11 ?_
    refine x_iconst C 14 dX0_operate_14 ki_1 ?_
    refine x_isub C 15 dX0_operate_15 ?_
    refine fpf_X0_44 (hg0) C 16 dX0_operate_16 (fun s_16 => ?_)
    refine x_aload_n C 19 0 dX0_operate_19 rfl ?_
    refine fgf_X0_11 (hg0) C 20 dX0_operate_20 ?_
    refine x_aload_n C 23 0 dX0_operate_23 rfl ?_
    refine fgf_X0_44 (hg0) C 24 dX0_operate_24 ?_
    refine x_iconst C 27 dX0_operate_27 ki_1 ?_
    refine x_isub C 28 dX0_operate_28 ?_
    refine x_iald C 29 (ltD_1 hg0) (kD_1 V hg0 _) dX0_operate_29 (fun _ => ?_)
    refine x_istore_nt C 30 (fun v2_30 => [(2, .int v2_30), (0, .ref (zA (Zc V) g0)), (1, .int v1)]) dX0_operate_30 rfl (hN _ (Nat.le_of_ble_eq_true rfl)) (fun _ => rfl) (fun v2_30 => ?_)
    refine x_aload_n C 31 1 dX0_operate_31 rfl ?_
    refine fgf_X0_11 (hg0) C 32 dX0_operate_32 ?_
    refine x_aload_n C 35 1 dX0_operate_35 rfl ?_
    refine fgf_X0_44 (hg0) C 36 dX0_operate_36 ?_
    refine x_iald C 39 (ltD_1 hg0) (kD_1 V hg0 _) dX0_operate_39 (fun _ => ?_)
    refine x_istore_nt C 40 (fun v3_40 => [(3, .int v3_40), (2, .int v2_30), (0, .ref (zA (Zc V) g0)), (1, .int v1)]) dX0_operate_40 rfl (hN _ (Nat.le_of_ble_eq_true rfl)) (fun _ => rfl) (fun v3_40 => ?_)
    refine x_iload_n C 41 3 dX0_operate_41 rfl ?_
    refine x_bipush C 42 dX0_operate_42 kb_43 ?_
    refine x_icmp_ne C 44 64 dX0_operate_44 (by decide) (fun _ => ?_) (fun _ => ?_)
    · refine x_iload_n C 64 3 dX0_operate_64 rfl ?_
      refine x_bipush C 65 dX0_operate_65 kb_45 ?_
      refine x_icmp_ne C 67 87 dX0_operate_67 (by decide) (fun _ => ?_) (fun _ => ?_)
      · refine x_iload_n C 87 3 dX0_operate_87 rfl ?_
        refine x_bipush C 88 dX0_operate_88 kb_42 ?_
        refine x_icmp_ne C 90 110 dX0_operate_90 (by decide) (fun _ => ?_) (fun _ => ?_)
        · refine x_iload_n C 110 0 dX0_operate_110 rfl ?_
          refine x_if_ne C 111 122 dX0_operate_111 (by decide) (fun _ => ?_) (fun _ => ?_)
          · refine x_aload_n C 122 2 dX0_operate_122 rfl ?_
            refine fgf_X0_11 (hg0) C 123 dX0_operate_123 ?_
            refine x_aload_n C 126 2 dX0_operate_126 rfl ?_
            refine fgf_X0_44 (hg0) C 127 dX0_operate_127 ?_
            refine x_iconst C 130 dX0_operate_130 ki_1 ?_
            refine x_isub C 131 dX0_operate_131 ?_
            refine x_iload_n C 132 1 dX0_operate_132 rfl ?_
            refine x_iload_n C 133 0 dX0_operate_133 rfl ?_
            refine Y_chk (fun q134 => ?_)
            refine x_idiv C 134 dX0_operate_134 q134 ?_
            refine x_iast C 135 (ltD_1 hg0) (kD_1 V hg0) dX0_operate_135 (fun _ s_135 => ?_)
            exact x_vret C R 136 dX0_operate_136
          · refine x_aload_n C 114 2 dX0_operate_114 rfl ?_
            refine x_iconst C 115 dX0_operate_115 ki_1 ?_
            refine fpf_X0_15 (hg0) C 116 rfl rfl dX0_operate_116 (fun s_116 => ?_)
            refine x_goto C 119 136 dX0_operate_119 (by decide) ?_
            exact x_vret C R 136 dX0_operate_136
        · refine x_aload_n C 93 2 dX0_operate_93 rfl ?_
          refine fgf_X0_11 (hg0) C 94 dX0_operate_94 ?_
          refine x_aload_n C 97 2 dX0_operate_97 rfl ?_
          refine fgf_X0_44 (hg0) C 98 dX0_operate_98 ?_
          refine x_iconst C 101 dX0_operate_101 ki_1 ?_
          refine x_isub C 102 dX0_operate_102 ?_
          refine x_iload_n C 103 1 dX0_operate_103 rfl ?_
          refine x_iload_n C 104 0 dX0_operate_104 rfl ?_
          refine x_imul C 105 dX0_operate_105 ?_
          refine x_iast C 106 (ltD_1 hg0) (kD_1 V hg0) dX0_operate_106 (fun _ s_106 => ?_)
          refine x_goto C 107 136 dX0_operate_107 (by decide) ?_
          exact x_vret C R 136 dX0_operate_136
      · refine x_aload_n C 70 2 dX0_operate_70 rfl ?_
        refine fgf_X0_11 (hg0) C 71 dX0_operate_71 ?_
        refine x_aload_n C 74 2 dX0_operate_74 rfl ?_
        refine fgf_X0_44 (hg0) C 75 dX0_operate_75 ?_
        refine x_iconst C 78 dX0_operate_78 ki_1 ?_
        refine x_isub C 79 dX0_operate_79 ?_
        refine x_iload_n C 80 1 dX0_operate_80 rfl ?_
        refine x_iload_n C 81 0 dX0_operate_81 rfl ?_
        refine x_isub C 82 dX0_operate_82 ?_
        refine x_iast C 83 (ltD_1 hg0) (kD_1 V hg0) dX0_operate_83 (fun _ s_83 => ?_)
        refine x_goto C 84 136 dX0_operate_84 (by decide) ?_
        exact x_vret C R 136 dX0_operate_136
    · refine x_aload_n C 47 2 dX0_operate_47 rfl ?_
      refine fgf_X0_11 (hg0) C 48 dX0_operate_48 ?_
      refine x_aload_n C 51 2 dX0_operate_51 rfl ?_
      refine fgf_X0_44 (hg0) C 52 dX0_operate_52 ?_
      refine x_iconst C 55 dX0_operate_55 ki_1 ?_
      refine x_isub C 56 dX0_operate_56 ?_
      refine x_iload_n C 57 1 dX0_operate_57 rfl ?_
      refine x_iload_n C 58 0 dX0_operate_58 rfl ?_
      refine x_iadd C 59 dX0_operate_59 ?_
      refine x_iast C 60 (ltD_1 hg0) (kD_1 V hg0) dX0_operate_60 (fun _ s_60 => ?_)
      refine x_goto C 61 136 dX0_operate_61 (by decide) ?_
      exact x_vret C R 136 dX0_operate_136
  · exact x_vret C R 8 dX0_operate_8
def M_X0_worth_J158 (g0 : Nat) (g1 : Nat) (a5 : Nat) (n5 : Nat) (σ : Wd) : Option (Int32 × Wd) :=
  if (gI σ g0 1) ≤ 0 then (some ((0 : Int32), σ)) else (chk (ib ((gI σ g0 1) - (1 : Int32)) 32) (some ((gI σ (g0 + 1) (ix ((gI σ g0 1) - (1 : Int32)))), σ)))
def M_X0_worth_L13 (g0 : Nat) (g1 : Nat) (a5 : Nat) (n5 : Nat) (v2 : Int32) (v4 : Int32) (v6 : Int32) (v7 : Int32) (σ : Wd) : Option ((Int32 × Wd) ⊕ (Wd)) :=
  chk (ib v2 24) (if (gI σ (g1 + 6) (ix v2)) ≤ v7 then (some (.inr σ)) else (if (gI σ g0 2) ≠ 0 then (some (.inr σ)) else (chk (ib v7 400) (lt (gI σ (g1 + 8) (ix v7)) fun v8_38 => chk (ib v7 400) (if (gI σ (g1 + 7) (ix v7)) = (0 : Int32) then (bnd1 (M_X0_push σ g0 v8_38) fun s_83 => lt (v7 + (1 : Int32)) fun v7_152 => some (.inl (v7_152, s_83))) else (if (gI σ (g1 + 7) (ix v7)) = (1 : Int32) then (chk (ib (v6 + v8_38) n5) (bnd1 (M_X0_push σ g0 (gI σ a5 (ix (v6 + v8_38)))) fun s_98 => lt (v7 + (1 : Int32)) fun v7_152 => some (.inl (v7_152, s_98)))) else (if (gI σ (g1 + 7) (ix v7)) = (2 : Int32) then (chk (ib v4 60) (bnd1 (M_X0_push σ g0 (gI σ 31 (ix v4))) fun s_112 => lt (v7 + (1 : Int32)) fun v7_152 => some (.inl (v7_152, s_112)))) else (if (gI σ (g1 + 7) (ix v7)) = (3 : Int32) then (chk (ib v4 60) (bnd1 (M_X0_push σ g0 (gI σ 33 (ix v4))) fun s_126 => lt (v7 + (1 : Int32)) fun v7_152 => some (.inl (v7_152, s_126)))) else (if (gI σ (g1 + 7) (ix v7)) = (4 : Int32) then (chk (ib v4 60) (bnd1 (M_X0_push σ g0 (gI σ 32 (ix v4))) fun s_140 => lt (v7 + (1 : Int32)) fun v7_152 => some (.inl (v7_152, s_140)))) else (bnd1 (M_X0_operate σ g0 v8_38) fun s_149 => lt (v7 + (1 : Int32)) fun v7_152 => some (.inl (v7_152, s_149))))))))))))
def M_X0_worth (σ : Wd) (g0 : Nat) (g1 : Nat) (v2 : Int32) (v4 : Int32) (a5 : Nat) (n5 : Nat) (v6 : Int32) : Option (Int32 × Wd) :=
  lt (uI σ g0 1 (0 : Int32)) fun s_2 => chk (ib v2 24) (lt (gI s_2 (g1 + 5) (ix v2)) fun v7_11 => bnd1 (iter (fun s : Int32 × Wd => M_X0_worth_L13 g0 g1 a5 n5 v2 v4 v6 s.1 s.2) FU (v7_11, s_2)) (un1 fun sx_13 => (M_X0_worth_J158 g0 g1 a5 n5 sx_13)))
set_option maxRecDepth 100000 in
set_option maxHeartbeats 4000000 in
theorem c_X0_worth (V : Ct_V) (l : Launch) (σ : Wd) (g0 : Nat) (hg0 : famD g0) (g1 : Nat) (hg1 : famT g1) (v2 : Int32) (v4 : Int32) (a5 : Nat) (n5 : Nat) (la5 : a5 < zN (Zc V)) (ka5 : ∀ σ : Wd, zY (Zc V) a5 σ = .inl (zC (Zc V) 1, n5, .inl (σ.1 a5))) (v6 : Int32) {r : Int32} {σ2 : Wd} (h : M_X0_worth σ g0 g1 v2 v4 a5 n5 v6 = some (r, σ2)) : Ct l (Zc V) yX0_worth cX0_worth 9 (some .int) 1 23 [.ref (zA (Zc V) g0), .ref (zA (Zc V) g1), .int v2, .ref (zA (Zc V) 28), .int v4, .ref (zA (Zc V) a5), .int v6] σ (some (.int r)) σ2 := by
  refine Ct_intro (own := RX0) zc_ok (by decide +kernel) rfl (Nat.le_of_ble_eq_true rfl) [(0, .ref (zA (Zc V) g0)), (1, .ref (zA (Zc V) g1)), (2, .int v2), (3, .ref (zA (Zc V) 28)), (4, .int v4), (5, .ref (zA (Zc V) a5)), (6, .int v6)] rfl (fun K C R hKl hnL => ?_)
  have hN := nl_of hnL
  subst hKl
  refine Y_end h ?_
  unfold M_X0_worth
  refine x_aload_n C 0 0 dX0_worth_0 rfl ?_
  refine x_iconst C 1 dX0_worth_1 ki_0 ?_
  refine fpf_X0_44 (hg0) C 2 dX0_worth_2 (fun s_2 => ?_)
  refine x_aload_n C 5 1 dX0_worth_5 rfl ?_
  refine fgf_X0_47 (hg1) C 6 dX0_worth_6 ?_
  refine x_iload_n C 9 2 dX0_worth_9 rfl ?_
  refine x_iald C 10 (ltT_5 hg1) (kT_5 V hg1 _) dX0_worth_10 (fun _ => ?_)
  refine x_istoret C 11 (fun v7_11 => [(7, .int v7_11), (0, .ref (zA (Zc V) g0)), (1, .ref (zA (Zc V) g1)), (2, .int v2), (3, .ref (zA (Zc V) 28)), (4, .int v4), (5, .ref (zA (Zc V) a5)), (6, .int v6)]) dX0_worth_11 (hN _ (Nat.le_of_ble_eq_true rfl)) (fun _ => rfl) (fun v7_11 => ?_)
  have hJ158 : ∀ (σ_158 : Wd), Y K (Zc V) (M_X0_worth_J158 g0 g1 a5 n5 σ_158) (fun q => q = (r, σ2)) σ_158 158 [(0, .ref (zA (Zc V) g0))] [] := by
    intro σ_158
    unfold M_X0_worth_J158
    refine x_aload_n C 158 0 dX0_worth_158 rfl ?_
    refine fgf_X0_44 (hg0) C 159 dX0_worth_159 ?_
    refine x_if_le C 162 179 dX0_worth_162 (by decide) (fun _ => ?_) (fun _ => ?_)
    · refine x_iconst C 179 dX0_worth_179 ki_0 ?_
      exact x_iret2 C R 180 dX0_worth_180
    · refine x_aload_n C 165 0 dX0_worth_165 rfl ?_
      refine fgf_X0_11 (hg0) C 166 dX0_worth_166 ?_
      refine x_aload_n C 169 0 dX0_worth_169 rfl ?_
      refine fgf_X0_44 (hg0) C 170 dX0_worth_170 ?_
      refine x_iconst C 173 dX0_worth_173 ki_1 ?_
      refine x_isub C 174 dX0_worth_174 ?_
      refine x_iald C 175 (ltD_1 hg0) (kD_1 V hg0 _) dX0_worth_175 (fun _ => ?_)
      refine x_goto C 176 180 dX0_worth_176 (by decide) ?_
      exact x_iret2 C R 180 dX0_worth_180
  refine Y_sub [1, 2, 3, 4, 5, 6, 7, 0] rfl ?_
  refine x_loop 13 (fun s : Int32 × Wd => s.2) (fun s : Int32 × Wd => [(0, .ref (zA (Zc V) g0)), (1, .ref (zA (Zc V) g1)), (2, .int v2), (3, .ref (zA (Zc V) 28)), (4, .int v4), (5, .ref (zA (Zc V) a5)), (6, .int v6), (7, .int s.1)]) (fun E13 hb13 hx13 s => ?_) FU (v7_11, s_2)
  obtain ⟨v7_13, s_13⟩ := s
  show Y K (Zc V) (M_X0_worth_L13 g0 g1 a5 n5 v2 v4 v6 v7_13 s_13) E13 s_13 13 [(0, .ref (zA (Zc V) g0)), (1, .ref (zA (Zc V) g1)), (2, .int v2), (3, .ref (zA (Zc V) 28)), (4, .int v4), (5, .ref (zA (Zc V) a5)), (6, .int v6), (7, .int v7_13)] []
  unfold M_X0_worth_L13
  refine x_iload C 13 7 dX0_worth_13 rfl ?_
  refine x_aload_n C 15 1 dX0_worth_15 rfl ?_
  refine fgf_X0_50 (hg1) C 16 dX0_worth_16 ?_
  refine x_iload_n C 19 2 dX0_worth_19 rfl ?_
  refine x_iald C 20 (ltT_6 hg1) (kT_6 V hg1 _) dX0_worth_20 (fun _ => ?_)
  refine x_icmp_ge C 21 158 dX0_worth_21 (by decide) (fun _ => ?_) (fun _ => ?_)
  · refine x_ex1 hx13 s_13 ?_
    refine Y_sub [0] rfl ?_
    exact hJ158 _
  · refine x_aload_n C 24 0 dX0_worth_24 rfl ?_
    refine fgf_X0_15 (hg0) C 25 dX0_worth_25 ?_
    refine x_if_ne C 28 158 dX0_worth_28 (by decide) (fun _ => ?_) (fun _ => ?_)
    · refine x_ex1 hx13 s_13 ?_
      refine Y_sub [0] rfl ?_
      exact hJ158 _
    · refine x_aload_n C 31 1 dX0_worth_31 rfl ?_
      refine fgf_X0_53 (hg1) C 32 dX0_worth_32 ?_
      refine x_iload C 35 7 dX0_worth_35 rfl ?_
      refine x_iald C 37 (ltT_8 hg1) (kT_8 V hg1 _) dX0_worth_37 (fun _ => ?_)
      refine x_istoret C 38 (fun v8_38 => [(8, .int v8_38), (0, .ref (zA (Zc V) g0)), (1, .ref (zA (Zc V) g1)), (2, .int v2), (3, .ref (zA (Zc V) 28)), (4, .int v4), (5, .ref (zA (Zc V) a5)), (6, .int v6), (7, .int v7_13)]) dX0_worth_38 (hN _ (Nat.le_of_ble_eq_true rfl)) (fun _ => rfl) (fun v8_38 => ?_)
      refine x_aload_n C 40 2 dX0_worth_40 rfl ?_
      refine fgf_X0_56 (hg1) C 41 dX0_worth_41 ?_
      refine x_iload C 44 8 dX0_worth_44 rfl ?_
      refine x_iald C 46 (ltT_7 hg1) (kT_7 V hg1 _) dX0_worth_46 (fun _ => ?_)
      refine Y_ite (fun c47 => ?_) (fun c47_0 => ?_)
      · refine x_tswIn C 47 80 (0 : Int32) c47 dX0_worth_47 (by decide) (by decide) rfl (by decide) ?_
        refine x_aload_n C 80 1 dX0_worth_80 rfl ?_
        refine x_iload C 81 0 dX0_worth_81 rfl ?_
        refine Y_bnd1 (fun s_83 h83 => ?_)
        refine x_callVv C 83 [.int v8_38] [] rfl tw_764 mv_X0_push (Nat.le_of_ble_eq_true rfl) (Nat.le_of_ble_eq_true rfl) (Nat.le_of_ble_eq_true rfl) (ltD_0 hg0) (kD_0 V hg0 _) rfl dX0_worth_83 (c_X0_push V _ _ _ hg0 _ h83) ?_
        refine x_goto C 86 152 dX0_worth_86 (by decide) ?_
        refine x_iinct C 152 8 (1 : Int32) (fun v7_152 => [(7, .int v7_152), (8, .int v8_38), (0, .ref (zA (Zc V) g0)), (1, .ref (zA (Zc V) g1)), (2, .int v2), (3, .ref (zA (Zc V) 28)), (4, .int v4), (5, .ref (zA (Zc V) a5)), (6, .int v6)]) dX0_worth_152 rfl ki_1 (hN _ (Nat.le_of_ble_eq_true rfl)) (fun _ => rfl) (fun v7_152 => ?_)
        refine x_goto C 155 13 dX0_worth_155 (by decide) ?_
        refine Y_sub [2, 3, 4, 5, 6, 7, 8, 0] rfl ?_
        exact x_back (v7_152, s_83) (hb13 (v7_152, s_83))
      refine Y_ite (fun c47 => ?_) (fun c47_1 => ?_)
      · refine x_tswIn C 47 89 (1 : Int32) c47 dX0_worth_47 (by decide) (by decide) rfl (by decide) ?_
        refine x_aload_n C 89 1 dX0_worth_89 rfl ?_
        refine x_aload C 90 6 dX0_worth_90 rfl ?_
        refine x_iload C 92 7 dX0_worth_92 rfl ?_
        refine x_iload C 94 0 dX0_worth_94 rfl ?_
        refine x_iadd C 96 dX0_worth_96 ?_
        refine x_iald C 97 (la5) (ka5 _) dX0_worth_97 (fun _ => ?_)
        refine Y_bnd1 (fun s_98 h98 => ?_)
        refine x_callVv C 98 [.int (gI s_13 a5 (ix (v6 + v8_38)))] [] rfl tw_764 mv_X0_push (Nat.le_of_ble_eq_true rfl) (Nat.le_of_ble_eq_true rfl) (Nat.le_of_ble_eq_true rfl) (ltD_0 hg0) (kD_0 V hg0 _) rfl dX0_worth_98 (c_X0_push V _ _ _ hg0 _ h98) ?_
        refine x_goto C 101 152 dX0_worth_101 (by decide) ?_
        refine x_iinct C 152 8 (1 : Int32) (fun v7_152 => [(7, .int v7_152), (8, .int v8_38), (0, .ref (zA (Zc V) g0)), (1, .ref (zA (Zc V) g1)), (2, .int v2), (3, .ref (zA (Zc V) 28)), (4, .int v4), (5, .ref (zA (Zc V) a5)), (6, .int v6)]) dX0_worth_152 rfl ki_1 (hN _ (Nat.le_of_ble_eq_true rfl)) (fun _ => rfl) (fun v7_152 => ?_)
        refine x_goto C 155 13 dX0_worth_155 (by decide) ?_
        refine Y_sub [2, 3, 4, 5, 6, 7, 8, 0] rfl ?_
        exact x_back (v7_152, s_98) (hb13 (v7_152, s_98))
      refine Y_ite (fun c47 => ?_) (fun c47_2 => ?_)
      · refine x_tswIn C 47 104 (2 : Int32) c47 dX0_worth_47 (by decide) (by decide) rfl (by decide) ?_
        refine x_aload_n C 104 1 dX0_worth_104 rfl ?_
        refine x_aload_n C 105 4 dX0_worth_105 rfl ?_
        refine fgc_X0_63 C 106 dX0_worth_106 ?_
        refine x_iload C 109 5 dX0_worth_109 rfl ?_
        refine x_iald C 111 (Nat.le_of_ble_eq_true rfl) (kc_31 V _) dX0_worth_111 (fun _ => ?_)
        refine Y_bnd1 (fun s_112 h112 => ?_)
        refine x_callVv C 112 [.int (gI s_13 31 (ix v4))] [] rfl tw_764 mv_X0_push (Nat.le_of_ble_eq_true rfl) (Nat.le_of_ble_eq_true rfl) (Nat.le_of_ble_eq_true rfl) (ltD_0 hg0) (kD_0 V hg0 _) rfl dX0_worth_112 (c_X0_push V _ _ _ hg0 _ h112) ?_
        refine x_goto C 115 152 dX0_worth_115 (by decide) ?_
        refine x_iinct C 152 8 (1 : Int32) (fun v7_152 => [(7, .int v7_152), (8, .int v8_38), (0, .ref (zA (Zc V) g0)), (1, .ref (zA (Zc V) g1)), (2, .int v2), (3, .ref (zA (Zc V) 28)), (4, .int v4), (5, .ref (zA (Zc V) a5)), (6, .int v6)]) dX0_worth_152 rfl ki_1 (hN _ (Nat.le_of_ble_eq_true rfl)) (fun _ => rfl) (fun v7_152 => ?_)
        refine x_goto C 155 13 dX0_worth_155 (by decide) ?_
        refine Y_sub [2, 3, 4, 5, 6, 7, 8, 0] rfl ?_
        exact x_back (v7_152, s_112) (hb13 (v7_152, s_112))
      refine Y_ite (fun c47 => ?_) (fun c47_3 => ?_)
      · refine x_tswIn C 47 118 (3 : Int32) c47 dX0_worth_47 (by decide) (by decide) rfl (by decide) ?_
        refine x_aload_n C 118 1 dX0_worth_118 rfl ?_
        refine x_aload_n C 119 4 dX0_worth_119 rfl ?_
        refine fgc_X0_66 C 120 dX0_worth_120 ?_
        refine x_iload C 123 5 dX0_worth_123 rfl ?_
        refine x_iald C 125 (Nat.le_of_ble_eq_true rfl) (kc_33 V _) dX0_worth_125 (fun _ => ?_)
        refine Y_bnd1 (fun s_126 h126 => ?_)
        refine x_callVv C 126 [.int (gI s_13 33 (ix v4))] [] rfl tw_764 mv_X0_push (Nat.le_of_ble_eq_true rfl) (Nat.le_of_ble_eq_true rfl) (Nat.le_of_ble_eq_true rfl) (ltD_0 hg0) (kD_0 V hg0 _) rfl dX0_worth_126 (c_X0_push V _ _ _ hg0 _ h126) ?_
        refine x_goto C 129 152 dX0_worth_129 (by decide) ?_
        refine x_iinct C 152 8 (1 : Int32) (fun v7_152 => [(7, .int v7_152), (8, .int v8_38), (0, .ref (zA (Zc V) g0)), (1, .ref (zA (Zc V) g1)), (2, .int v2), (3, .ref (zA (Zc V) 28)), (4, .int v4), (5, .ref (zA (Zc V) a5)), (6, .int v6)]) dX0_worth_152 rfl ki_1 (hN _ (Nat.le_of_ble_eq_true rfl)) (fun _ => rfl) (fun v7_152 => ?_)
        refine x_goto C 155 13 dX0_worth_155 (by decide) ?_
        refine Y_sub [2, 3, 4, 5, 6, 7, 8, 0] rfl ?_
        exact x_back (v7_152, s_126) (hb13 (v7_152, s_126))
      refine Y_ite (fun c47 => ?_) (fun c47_4 => ?_)
      · refine x_tswIn C 47 132 (4 : Int32) c47 dX0_worth_47 (by decide) (by decide) rfl (by decide) ?_
        refine x_aload_n C 132 1 dX0_worth_132 rfl ?_
        refine x_aload_n C 133 4 dX0_worth_133 rfl ?_
        refine fgc_X0_69 C 134 dX0_worth_134 ?_
        refine x_iload C 137 5 dX0_worth_137 rfl ?_
        refine x_iald C 139 (Nat.le_of_ble_eq_true rfl) (kc_32 V _) dX0_worth_139 (fun _ => ?_)
        refine Y_bnd1 (fun s_140 h140 => ?_)
        refine x_callVv C 140 [.int (gI s_13 32 (ix v4))] [] rfl tw_764 mv_X0_push (Nat.le_of_ble_eq_true rfl) (Nat.le_of_ble_eq_true rfl) (Nat.le_of_ble_eq_true rfl) (ltD_0 hg0) (kD_0 V hg0 _) rfl dX0_worth_140 (c_X0_push V _ _ _ hg0 _ h140) ?_
        refine x_goto C 143 152 dX0_worth_143 (by decide) ?_
        refine x_iinct C 152 8 (1 : Int32) (fun v7_152 => [(7, .int v7_152), (8, .int v8_38), (0, .ref (zA (Zc V) g0)), (1, .ref (zA (Zc V) g1)), (2, .int v2), (3, .ref (zA (Zc V) 28)), (4, .int v4), (5, .ref (zA (Zc V) a5)), (6, .int v6)]) dX0_worth_152 rfl ki_1 (hN _ (Nat.le_of_ble_eq_true rfl)) (fun _ => rfl) (fun v7_152 => ?_)
        refine x_goto C 155 13 dX0_worth_155 (by decide) ?_
        refine Y_sub [2, 3, 4, 5, 6, 7, 8, 0] rfl ?_
        exact x_back (v7_152, s_140) (hb13 (v7_152, s_140))
      · refine x_tswOut C 47 146 [(0 : Int32), (1 : Int32), (2 : Int32), (3 : Int32), (4 : Int32)] dX0_worth_47 (by decide) (List.forall_mem_cons.mpr ⟨c47_0, (List.forall_mem_cons.mpr ⟨c47_1, (List.forall_mem_cons.mpr ⟨c47_2, (List.forall_mem_cons.mpr ⟨c47_3, (List.forall_mem_cons.mpr ⟨c47_4, (List.forall_mem_nil _)⟩)⟩)⟩)⟩)⟩) (by decide) ?_
        refine x_aload_n C 146 1 dX0_worth_146 rfl ?_
        refine x_iload C 147 0 dX0_worth_147 rfl ?_
        refine Y_bnd1 (fun s_149 h149 => ?_)
        refine x_callVv C 149 [.int v8_38] [] rfl tw_768 mv_X0_operate (Nat.le_of_ble_eq_true rfl) (Nat.le_of_ble_eq_true rfl) (Nat.le_of_ble_eq_true rfl) (ltD_0 hg0) (kD_0 V hg0 _) rfl dX0_worth_149 (c_X0_operate V _ _ _ hg0 _ h149) ?_
        refine x_iinct C 152 8 (1 : Int32) (fun v7_152 => [(7, .int v7_152), (8, .int v8_38), (0, .ref (zA (Zc V) g0)), (1, .ref (zA (Zc V) g1)), (2, .int v2), (3, .ref (zA (Zc V) 28)), (4, .int v4), (5, .ref (zA (Zc V) a5)), (6, .int v6)]) dX0_worth_152 rfl ki_1 (hN _ (Nat.le_of_ble_eq_true rfl)) (fun _ => rfl) (fun v7_152 => ?_)
        refine x_goto C 155 13 dX0_worth_155 (by decide) ?_
        refine Y_sub [2, 3, 4, 5, 6, 7, 8, 0] rfl ?_
        exact x_back (v7_152, s_149) (hb13 (v7_152, s_149))
def M_X0_perform_J154 (g0 : Nat) (g1 : Nat) (a4 : Nat) (n4 : Nat) (σ : Wd) (v3 : Int32) (v5 : Int32) (v10 : Int32) (v11 : Int32) (t0 : Int32) : Option (Int32 × Wd) :=
  bnd2 (M_X0_worth σ g0 g1 t0 v3 a4 n4 v5) fun r160 s_160 => if (gI s_160 g0 2) = 0 then (chk (ib (v5 + v11) n4) (lt (uI s_160 a4 (ix (v5 + v11)) r160) fun s_183 => lt (uI s_183 g0 3 v11) fun s_187 => if v10 = 0 then (some ((1 : Int32), s_187)) else (some ((0 : Int32), s_187)))) else (some ((3 : Int32), s_160))
def M_X0_perform_J126 (g0 : Nat) (g1 : Nat) (a4 : Nat) (n4 : Nat) (σ : Wd) (v3 : Int32) (v5 : Int32) (v7 : Int32) (v10 : Int32) (t0 : Int32) : Option (Int32 × Wd) :=
  if t0 ≠ (-1 : Int32) then (if v10 = 0 then (M_X0_perform_J154 g0 g1 a4 n4 σ v3 v5 v10 t0 (v7 + (3 : Int32))) else (M_X0_perform_J154 g0 g1 a4 n4 σ v3 v5 v10 t0 (v7 + (2 : Int32)))) else (some ((2 : Int32), σ))
def M_X0_perform_J102 (g0 : Nat) (g1 : Nat) (a4 : Nat) (n4 : Nat) (σ : Wd) (v3 : Int32) (v5 : Int32) (v6 : Int32) (v7 : Int32) (t0 : Int32) : Option (Int32 × Wd) :=
  if t0 = 0 then (chk (ib v6 6) (M_X0_perform_J126 g0 g1 a4 n4 σ v3 v5 v7 t0 (gI σ (g1 + 4) (ix v6)))) else (chk (ib v6 6) (M_X0_perform_J126 g0 g1 a4 n4 σ v3 v5 v7 t0 (gI σ (g1 + 3) (ix v6))))
def M_X0_perform (σ : Wd) (g0 : Nat) (g1 : Nat) (v3 : Int32) (a4 : Nat) (n4 : Nat) (v5 : Int32) : Option (Int32 × Wd) :=
  lt (uI σ g0 2 (0 : Int32)) fun s_2 => lt (uI s_2 g0 3 (-1 : Int32)) fun s_7 => chk (ib v3 60) (lt (gI s_7 30 (ix v3)) fun v6_16 => lt (v6_16 * (4 : Int32)) fun v7_22 => bnd2 (M_X0_worth s_7 g0 g1 v7_22 v3 a4 n4 v5) fun r34 s_34 => bnd2 (M_X0_worth s_34 g0 g1 (v7_22 + (1 : Int32)) v3 a4 n4 v5) fun r51 s_51 => if (gI s_51 g0 2) = 0 then (chk (ib v6_16 6) (if (gI s_51 (g1 + 2) (ix v6_16)) = 0 then (if r34 ≠ r51 then (M_X0_perform_J102 g0 g1 a4 n4 s_51 v3 v5 v6_16 v7_22 (0 : Int32)) else (M_X0_perform_J102 g0 g1 a4 n4 s_51 v3 v5 v6_16 v7_22 (1 : Int32))) else (if r51 ≤ r34 then (M_X0_perform_J102 g0 g1 a4 n4 s_51 v3 v5 v6_16 v7_22 (0 : Int32)) else (M_X0_perform_J102 g0 g1 a4 n4 s_51 v3 v5 v6_16 v7_22 (1 : Int32))))) else (some ((3 : Int32), s_51)))
set_option maxRecDepth 100000 in
set_option maxHeartbeats 4000000 in
theorem c_X0_perform (V : Ct_V) (l : Launch) (σ : Wd) (g0 : Nat) (hg0 : famD g0) (g1 : Nat) (hg1 : famT g1) (v3 : Int32) (a4 : Nat) (n4 : Nat) (la4 : a4 < zN (Zc V)) (ka4 : ∀ σ : Wd, zY (Zc V) a4 σ = .inl (zC (Zc V) 1, n4, .inl (σ.1 a4))) (v5 : Int32) {r : Int32} {σ2 : Wd} (h : M_X0_perform σ g0 g1 v3 a4 n4 v5 = some (r, σ2)) : Ct l (Zc V) yX0_perform cX0_perform 13 (some .int) 2 51 [.ref (zA (Zc V) g0), .ref (zA (Zc V) g1), .ref (zA (Zc V) 28), .int v3, .ref (zA (Zc V) a4), .int v5] σ (some (.int r)) σ2 := by
  refine Ct_intro (own := RX0) zc_ok (by decide +kernel) rfl (Nat.le_of_ble_eq_true rfl) [(0, .ref (zA (Zc V) g0)), (1, .ref (zA (Zc V) g1)), (2, .ref (zA (Zc V) 28)), (3, .int v3), (4, .ref (zA (Zc V) a4)), (5, .int v5)] rfl (fun K C R hKl hnL => ?_)
  have hN := nl_of hnL
  subst hKl
  refine Y_end h ?_
  unfold M_X0_perform
  refine x_aload_n C 0 0 dX0_perform_0 rfl ?_
  refine x_iconst C 1 dX0_perform_1 ki_0 ?_
  refine fpf_X0_15 (hg0) C 2 rfl rfl dX0_perform_2 (fun s_2 => ?_)
  refine x_aload_n C 5 0 dX0_perform_5 rfl ?_
  refine x_iconst C 6 dX0_perform_6 ki_m1 ?_
  refine fpf_X0_19 (hg0) C 7 dX0_perform_7 (fun s_7 => ?_)
  refine x_aload_n C 10 2 dX0_perform_10 rfl ?_
  refine fgc_X0_23 C 11 dX0_perform_11 ?_
  refine x_iload_n C 14 3 dX0_perform_14 rfl ?_
  refine x_iald C 15 (Nat.le_of_ble_eq_true rfl) (kc_30 V _) dX0_perform_15 (fun _ => ?_)
  refine x_istoret C 16 (fun v6_16 => [(6, .int v6_16), (0, .ref (zA (Zc V) g0)), (1, .ref (zA (Zc V) g1)), (2, .ref (zA (Zc V) 28)), (3, .int v3), (4, .ref (zA (Zc V) a4)), (5, .int v5)]) dX0_perform_16 (hN _ (Nat.le_of_ble_eq_true rfl)) (fun _ => rfl) (fun v6_16 => ?_)
  refine x_iload C 18 0 dX0_perform_18 rfl ?_
  refine x_iconst C 20 dX0_perform_20 ki_4 ?_
  refine x_imul C 21 dX0_perform_21 ?_
  refine x_istoret C 22 (fun v7_22 => [(7, .int v7_22), (6, .int v6_16), (0, .ref (zA (Zc V) g0)), (1, .ref (zA (Zc V) g1)), (2, .ref (zA (Zc V) 28)), (3, .int v3), (4, .ref (zA (Zc V) a4)), (5, .int v5)]) dX0_perform_22 (hN _ (Nat.le_of_ble_eq_true rfl)) (fun _ => rfl) (fun v7_22 => ?_)
  refine x_aload_n C 24 2 dX0_perform_24 rfl ?_
  refine x_aload_n C 25 3 dX0_perform_25 rfl ?_
  refine x_iload C 26 0 dX0_perform_26 rfl ?_
  refine x_aload_n C 28 4 dX0_perform_28 rfl ?_
  refine x_iload_n C 29 5 dX0_perform_29 rfl ?_
  refine x_aload C 30 6 dX0_perform_30 rfl ?_
  refine x_iload C 32 7 dX0_perform_32 rfl ?_
  refine Y_bnd2 (fun r34 s_34 h34 => ?_)
  refine x_callVi C 34 [.ref (zA (Zc V) g1), .int v7_22, .ref (zA (Zc V) 28), .int v3, .ref (zA (Zc V) a4), .int v5] [] rfl tw_760 mv_X0_worth (Nat.le_of_ble_eq_true rfl) (Nat.le_of_ble_eq_true rfl) (Nat.le_of_ble_eq_true rfl) (ltD_0 hg0) (kD_0 V hg0 _) rfl dX0_perform_34 (c_X0_worth V _ _ _ hg0 _ hg1 _ _ _ _ (la4) (ka4) _ h34) ?_
  refine x_istore C 37 (L' := [(8, .int r34), (7, .int v7_22), (6, .int v6_16), (0, .ref (zA (Zc V) g0)), (1, .ref (zA (Zc V) g1)), (2, .ref (zA (Zc V) 28)), (3, .int v3), (4, .ref (zA (Zc V) a4)), (5, .int v5)]) dX0_perform_37 (hN _ (Nat.le_of_ble_eq_true rfl)) rfl ?_
  refine x_aload_n C 39 3 dX0_perform_39 rfl ?_
  refine x_aload_n C 40 4 dX0_perform_40 rfl ?_
  refine x_iload C 41 1 dX0_perform_41 rfl ?_
  refine x_iconst C 43 dX0_perform_43 ki_1 ?_
  refine x_iadd C 44 dX0_perform_44 ?_
  refine x_aload_n C 45 5 dX0_perform_45 rfl ?_
  refine x_iload_n C 46 6 dX0_perform_46 rfl ?_
  refine x_aload C 47 7 dX0_perform_47 rfl ?_
  refine x_iload C 49 8 dX0_perform_49 rfl ?_
  refine Y_bnd2 (fun r51 s_51 h51 => ?_)
  refine x_callVi C 51 [.ref (zA (Zc V) g1), .int (v7_22 + (1 : Int32)), .ref (zA (Zc V) 28), .int v3, .ref (zA (Zc V) a4), .int v5] [] rfl tw_760 mv_X0_worth (Nat.le_of_ble_eq_true rfl) (Nat.le_of_ble_eq_true rfl) (Nat.le_of_ble_eq_true rfl) (ltD_0 hg0) (kD_0 V hg0 _) rfl dX0_perform_51 (c_X0_worth V _ _ _ hg0 _ hg1 _ _ _ _ (la4) (ka4) _ h51) ?_
  refine x_istore C 54 (L' := [(9, .int r51), (8, .int r34), (7, .int v7_22), (6, .int v6_16), (0, .ref (zA (Zc V) g0)), (1, .ref (zA (Zc V) g1)), (2, .ref (zA (Zc V) 28)), (3, .int v3), (4, .ref (zA (Zc V) a4)), (5, .int v5)]) dX0_perform_54 (hN _ (Nat.le_of_ble_eq_true rfl)) rfl ?_
  refine x_aload_n C 56 4 dX0_perform_56 rfl ?_
  refine fgf_X0_15 (hg0) C 57 dX0_perform_57 ?_
  refine x_if_eq C 60 65 dX0_perform_60 (by decide) (fun _ => ?_) (fun _ => ?_)
  · refine x_aload_n C 65 5 dX0_perform_65 rfl ?_
    refine fgf_X0_34 (hg1) C 66 dX0_perform_66 ?_
    refine x_iload C 69 3 dX0_perform_69 rfl ?_
    refine x_zald C 71 (ltT_2 hg1) (kT_2 V hg1 _) dX0_perform_71 (fun _ => ?_)
    have hJ102 : ∀ (σ_102 : Wd) (v3_102 : Int32) (v5_102 : Int32) (v6_102 : Int32) (v7_102 : Int32) (t0_102 : Int32), Y K (Zc V) (M_X0_perform_J102 g0 g1 a4 n4 σ_102 v3_102 v5_102 v6_102 v7_102 t0_102) (fun q => q = (r, σ2)) σ_102 102 [(0, .ref (zA (Zc V) g0)), (1, .ref (zA (Zc V) g1)), (2, .ref (zA (Zc V) 28)), (3, .int v3_102), (4, .ref (zA (Zc V) a4)), (5, .int v5_102), (6, .int v6_102), (7, .int v7_102)] [.int t0_102] := by
      intro σ_102 v3_102 v5_102 v6_102 v7_102 t0_102
      unfold M_X0_perform_J102
      refine x_istore C 102 (L' := [(10, .int t0_102), (0, .ref (zA (Zc V) g0)), (1, .ref (zA (Zc V) g1)), (2, .ref (zA (Zc V) 28)), (3, .int v3_102), (4, .ref (zA (Zc V) a4)), (5, .int v5_102), (6, .int v6_102), (7, .int v7_102)]) dX0_perform_102 (hN _ (Nat.le_of_ble_eq_true rfl)) rfl ?_
      refine x_iload C 104 0 dX0_perform_104 rfl ?_
      have hJ126 : ∀ (σ_126 : Wd) (v3_126 : Int32) (v5_126 : Int32) (v7_126 : Int32) (v10_126 : Int32) (t0_126 : Int32), Y K (Zc V) (M_X0_perform_J126 g0 g1 a4 n4 σ_126 v3_126 v5_126 v7_126 v10_126 t0_126) (fun q => q = (r, σ2)) σ_126 126 [(0, .ref (zA (Zc V) g0)), (1, .ref (zA (Zc V) g1)), (2, .ref (zA (Zc V) 28)), (3, .int v3_126), (4, .ref (zA (Zc V) a4)), (5, .int v5_126), (7, .int v7_126), (10, .int v10_126)] [.int t0_126] := by
        intro σ_126 v3_126 v5_126 v7_126 v10_126 t0_126
        unfold M_X0_perform_J126
        refine x_istore C 126 (L' := [(11, .int t0_126), (0, .ref (zA (Zc V) g0)), (1, .ref (zA (Zc V) g1)), (2, .ref (zA (Zc V) 28)), (3, .int v3_126), (4, .ref (zA (Zc V) a4)), (5, .int v5_126), (7, .int v7_126), (10, .int v10_126)]) dX0_perform_126 (hN _ (Nat.le_of_ble_eq_true rfl)) rfl ?_
        refine x_iload C 128 0 dX0_perform_128 rfl ?_
        refine x_iconst C 130 dX0_perform_130 ki_m1 ?_
        refine x_icmp_ne C 131 136 dX0_perform_131 (by decide) (fun _ => ?_) (fun _ => ?_)
        · refine x_aload_n C 136 1 dX0_perform_136 rfl ?_
          refine x_aload_n C 137 2 dX0_perform_137 rfl ?_
          refine x_iload C 138 8 dX0_perform_138 rfl ?_
          have hJ154 : ∀ (σ_154 : Wd) (v3_154 : Int32) (v5_154 : Int32) (v10_154 : Int32) (v11_154 : Int32) (t0_154 : Int32), Y K (Zc V) (M_X0_perform_J154 g0 g1 a4 n4 σ_154 v3_154 v5_154 v10_154 v11_154 t0_154) (fun q => q = (r, σ2)) σ_154 154 [(0, .ref (zA (Zc V) g0)), (2, .ref (zA (Zc V) 28)), (3, .int v3_154), (4, .ref (zA (Zc V) a4)), (5, .int v5_154), (10, .int v10_154), (11, .int v11_154)] [.int t0_154, .ref (zA (Zc V) g1), .ref (zA (Zc V) g0)] := by
            intro σ_154 v3_154 v5_154 v10_154 v11_154 t0_154
            unfold M_X0_perform_J154
            refine x_aload_n C 154 1 dX0_perform_154 rfl ?_
            refine x_iload_n C 155 2 dX0_perform_155 rfl ?_
            refine x_aload C 156 3 dX0_perform_156 rfl ?_
            refine x_iload C 158 4 dX0_perform_158 rfl ?_
            refine Y_bnd2 (fun r160 s_160 h160 => ?_)
            refine x_callVi C 160 [.ref (zA (Zc V) g1), .int t0_154, .ref (zA (Zc V) 28), .int v3_154, .ref (zA (Zc V) a4), .int v5_154] [] rfl tw_760 mv_X0_worth (Nat.le_of_ble_eq_true rfl) (Nat.le_of_ble_eq_true rfl) (Nat.le_of_ble_eq_true rfl) (ltD_0 hg0) (kD_0 V hg0 _) rfl dX0_perform_160 (c_X0_worth V _ _ _ hg0 _ hg1 _ _ _ _ (la4) (ka4) _ h160) ?_
            refine x_istore C 163 (L' := [(12, .int r160), (0, .ref (zA (Zc V) g0)), (2, .ref (zA (Zc V) 28)), (3, .int v3_154), (4, .ref (zA (Zc V) a4)), (5, .int v5_154), (10, .int v10_154), (11, .int v11_154)]) dX0_perform_163 (hN _ (Nat.le_of_ble_eq_true rfl)) rfl ?_
            refine x_aload_n C 165 1 dX0_perform_165 rfl ?_
            refine fgf_X0_15 (hg0) C 166 dX0_perform_166 ?_
            refine x_if_eq C 169 174 dX0_perform_169 (by decide) (fun _ => ?_) (fun _ => ?_)
            · refine x_aload C 174 4 dX0_perform_174 rfl ?_
              refine x_iload C 176 5 dX0_perform_176 rfl ?_
              refine x_iload C 178 7 dX0_perform_178 rfl ?_
              refine x_iadd C 180 dX0_perform_180 ?_
              refine x_iload C 181 0 dX0_perform_181 rfl ?_
              refine x_iast C 183 (la4) (ka4) dX0_perform_183 (fun _ s_183 => ?_)
              refine x_aload_n C 184 1 dX0_perform_184 rfl ?_
              refine x_iload C 185 7 dX0_perform_185 rfl ?_
              refine fpf_X0_19 (hg0) C 187 dX0_perform_187 (fun s_187 => ?_)
              refine x_iload C 190 6 dX0_perform_190 rfl ?_
              refine x_if_eq C 192 199 dX0_perform_192 (by decide) (fun _ => ?_) (fun _ => ?_)
              · refine x_iconst C 199 dX0_perform_199 ki_1 ?_
                exact x_iret2 C R 200 dX0_perform_200
              · refine x_iconst C 195 dX0_perform_195 ki_0 ?_
                refine x_goto C 196 200 dX0_perform_196 (by decide) ?_
                exact x_iret2 C R 200 dX0_perform_200
            · refine x_iconst C 172 dX0_perform_172 ki_3 ?_
              exact x_iret2 C R 173 dX0_perform_173
          refine x_if_eq C 140 150 dX0_perform_140 (by decide) (fun _ => ?_) (fun _ => ?_)
          · refine x_iload C 150 7 dX0_perform_150 rfl ?_
            refine x_iconst C 152 dX0_perform_152 ki_3 ?_
            refine x_iadd C 153 dX0_perform_153 ?_
            refine Y_sub [1, 3, 4, 5, 6, 8, 0] rfl ?_
            exact hJ154 _ _ _ _ _ _
          · refine x_iload C 143 7 dX0_perform_143 rfl ?_
            refine x_iconst C 145 dX0_perform_145 ki_2 ?_
            refine x_iadd C 146 dX0_perform_146 ?_
            refine x_goto C 147 154 dX0_perform_147 (by decide) ?_
            refine Y_sub [1, 3, 4, 5, 6, 8, 0] rfl ?_
            exact hJ154 _ _ _ _ _ _
        · refine x_iconst C 134 dX0_perform_134 ki_2 ?_
          exact x_iret2 C R 135 dX0_perform_135
      refine x_if_eq C 106 119 dX0_perform_106 (by decide) (fun _ => ?_) (fun _ => ?_)
      · refine x_aload_n C 119 2 dX0_perform_119 rfl ?_
        refine fgf_X0_41 (hg1) C 120 dX0_perform_120 ?_
        refine x_iload C 123 7 dX0_perform_123 rfl ?_
        refine x_iald C 125 (ltT_4 hg1) (kT_4 V hg1 _) dX0_perform_125 (fun _ => ?_)
        refine Y_sub [1, 2, 3, 4, 5, 6, 8, 0] rfl ?_
        exact hJ126 _ _ _ _ _ _
      · refine x_aload_n C 109 2 dX0_perform_109 rfl ?_
        refine fgf_X0_38 (hg1) C 110 dX0_perform_110 ?_
        refine x_iload C 113 7 dX0_perform_113 rfl ?_
        refine x_iald C 115 (ltT_3 hg1) (kT_3 V hg1 _) dX0_perform_115 (fun _ => ?_)
        refine x_goto C 116 126 dX0_perform_116 (by decide) ?_
        refine Y_sub [1, 2, 3, 4, 5, 6, 8, 0] rfl ?_
        exact hJ126 _ _ _ _ _ _
    refine x_if_eq C 72 90 dX0_perform_72 (by decide) (fun _ => ?_) (fun _ => ?_)
    · refine x_iload C 90 1 dX0_perform_90 rfl ?_
      refine x_iload C 92 0 dX0_perform_92 rfl ?_
      refine x_icmp_ne C 94 101 dX0_perform_94 (by decide) (fun _ => ?_) (fun _ => ?_)
      · refine x_iconst C 101 dX0_perform_101 ki_0 ?_
        refine Y_sub [4, 5, 6, 7, 8, 9, 3, 2] rfl ?_
        exact hJ102 _ _ _ _ _ _
      · refine x_iconst C 97 dX0_perform_97 ki_1 ?_
        refine x_goto C 98 102 dX0_perform_98 (by decide) ?_
        refine Y_sub [4, 5, 6, 7, 8, 9, 3, 2] rfl ?_
        exact hJ102 _ _ _ _ _ _
    · refine x_iload C 75 1 dX0_perform_75 rfl ?_
      refine x_iload C 77 0 dX0_perform_77 rfl ?_
      refine x_icmp_ge C 79 86 dX0_perform_79 (by decide) (fun _ => ?_) (fun _ => ?_)
      · refine x_iconst C 86 dX0_perform_86 ki_0 ?_
        refine x_goto C 87 102 dX0_perform_87 (by decide) ?_
        refine Y_sub [4, 5, 6, 7, 8, 9, 3, 2] rfl ?_
        exact hJ102 _ _ _ _ _ _
      · refine x_iconst C 82 dX0_perform_82 ki_1 ?_
        refine x_goto C 83 102 dX0_perform_83 (by decide) ?_
        refine Y_sub [4, 5, 6, 7, 8, 9, 3, 2] rfl ?_
        exact hJ102 _ _ _ _ _ _
  · refine x_iconst C 63 dX0_perform_63 ki_3 ?_
    exact x_iret2 C R 64 dX0_perform_64
def M_X1_begin_L2 (v1 : Int32) (v2 : Int32) (v3 : Int32) (σ : Wd) : Option ((Int32 × Wd) ⊕ (Wd)) :=
  if (96 : Int32) ≤ v3 then (some (.inr σ)) else (chk (ib v3 96) (lt (uL σ 29 (ix v3) (0 : Int64)) fun s_14 => lt (v3 + (1 : Int32)) fun v3_15 => some (.inl (v3_15, s_14))))
def M_X1_begin (σ : Wd) (v1 : Int32) (v2 : Int32) : Option Wd :=
  bnd1 (iter (fun s : Int32 × Wd => M_X1_begin_L2 v1 v2 s.1 s.2) FU ((0 : Int32), σ)) (un1 fun sx_2 => (chk (ib (0 : Int32) 96) (lt (uL sx_2 29 (ix (0 : Int32)) v1.toInt64) fun s_28 => chk (ib (1 : Int32) 96) (lt (uL s_28 29 (ix (1 : Int32)) v2.toInt64) fun s_36 => some s_36))))
set_option maxRecDepth 100000 in
set_option maxHeartbeats 4000000 in
theorem c_X1_begin (V : Ct_V) (l : Launch) (σ : Wd) (v1 : Int32) (v2 : Int32) {σ2 : Wd} (h : M_X1_begin σ v1 v2 = some σ2) : Ct l (Zc V) yX1_begin cX1_begin 4 none 0 0 [.ref (zA (Zc V) 28), .int v1, .int v2] σ none σ2 := by
  refine Ct_intro (own := RX1) zc_ok (by decide +kernel) rfl (Nat.le_of_ble_eq_true rfl) [(0, .ref (zA (Zc V) 28)), (1, .int v1), (2, .int v2)] rfl (fun K C R hKl hnL => ?_)
  have hN := nl_of hnL
  subst hKl
  refine Y_end h ?_
  unfold M_X1_begin
  refine x_iconst C 0 dX1_begin_0 ki_0 ?_
  refine x_istore_n C 1 (L' := [(3, .int (0 : Int32)), (0, .ref (zA (Zc V) 28)), (1, .int v1), (2, .int v2)]) dX1_begin_1 rfl (hN _ (Nat.le_of_ble_eq_true rfl)) rfl ?_
  refine Y_sub [1, 2, 3, 0] rfl ?_
  refine x_loop 2 (fun s : Int32 × Wd => s.2) (fun s : Int32 × Wd => [(0, .ref (zA (Zc V) 28)), (1, .int v1), (2, .int v2), (3, .int s.1)]) (fun E2 hb2 hx2 s => ?_) FU ((0 : Int32), σ)
  obtain ⟨v3_2, s_2⟩ := s
  show Y K (Zc V) (M_X1_begin_L2 v1 v2 v3_2 s_2) E2 s_2 2 [(0, .ref (zA (Zc V) 28)), (1, .int v1), (2, .int v2), (3, .int v3_2)] []
  unfold M_X1_begin_L2
  refine x_iload_n C 2 3 dX1_begin_2 rfl ?_
  refine x_bipush C 3 dX1_begin_3 kb_96 ?_
  refine x_icmp_ge C 5 21 dX1_begin_5 (by decide) (fun _ => ?_) (fun _ => ?_)
  · refine x_ex1 hx2 s_2 ?_
    refine x_aload_n C 21 0 dX1_begin_21 rfl ?_
    refine fgc_X1_11 C 22 dX1_begin_22 ?_
    refine x_iconst C 25 dX1_begin_25 ki_0 ?_
    refine x_iload_n C 26 1 dX1_begin_26 rfl ?_
    refine x_i2l C 27 dX1_begin_27 ?_
    refine x_last C 28 (Nat.le_of_ble_eq_true rfl) (kc_29 V) dX1_begin_28 (fun _ s_28 => ?_)
    refine x_aload_n C 29 0 dX1_begin_29 rfl ?_
    refine fgc_X1_11 C 30 dX1_begin_30 ?_
    refine x_iconst C 33 dX1_begin_33 ki_1 ?_
    refine x_iload_n C 34 2 dX1_begin_34 rfl ?_
    refine x_i2l C 35 dX1_begin_35 ?_
    refine x_last C 36 (Nat.le_of_ble_eq_true rfl) (kc_29 V) dX1_begin_36 (fun _ s_36 => ?_)
    exact x_vret C R 37 dX1_begin_37
  · refine x_aload_n C 8 0 dX1_begin_8 rfl ?_
    refine fgc_X1_11 C 9 dX1_begin_9 ?_
    refine x_iload_n C 12 3 dX1_begin_12 rfl ?_
    refine x_lconst C 13 dX1_begin_13 kl_0 ?_
    refine x_last C 14 (Nat.le_of_ble_eq_true rfl) (kc_29 V) dX1_begin_14 (fun _ s_14 => ?_)
    refine x_iinct C 15 3 (1 : Int32) (fun v3_15 => [(3, .int v3_15), (0, .ref (zA (Zc V) 28)), (1, .int v1), (2, .int v2)]) dX1_begin_15 rfl ki_1 (hN _ (Nat.le_of_ble_eq_true rfl)) (fun _ => rfl) (fun v3_15 => ?_)
    refine x_goto C 18 2 dX1_begin_18 (by decide) ?_
    refine Y_sub [1, 2, 3, 0] rfl ?_
    exact x_back (v3_15, s_14) (hb2 (v3_15, s_14))
def M_X1_takeOver (σ : Wd) (g0 : Nat) (g1 : Nat) : Option Wd :=
  chk (¬ (0 : Int32) < 0 ∧ ¬ (0 : Int32) < 0 ∧ ¬ (96 : Int32) < 0 ∧ ix (0 : Int32) + ix (96 : Int32) ≤ 96 ∧ ix (0 : Int32) + ix (96 : Int32) ≤ 96) (lt (rL σ (g0 + 1) (va_cpy (σ.2.1 (g1 + 1)) (σ.2.1 (g0 + 1)) (ix (0 : Int32)) (ix (0 : Int32)) (ix (96 : Int32)))) fun s_12 => chk (¬ (0 : Int32) < 0 ∧ ¬ (0 : Int32) < 0 ∧ ¬ (60 : Int32) < 0 ∧ ix (0 : Int32) + ix (60 : Int32) ≤ 60 ∧ ix (0 : Int32) + ix (60 : Int32) ≤ 60) (lt (rI s_12 (g0 + 2) (va_cpy (s_12.1 (g1 + 2)) (s_12.1 (g0 + 2)) (ix (0 : Int32)) (ix (0 : Int32)) (ix (60 : Int32)))) fun s_27 => chk (¬ (0 : Int32) < 0 ∧ ¬ (0 : Int32) < 0 ∧ ¬ (60 : Int32) < 0 ∧ ix (0 : Int32) + ix (60 : Int32) ≤ 60 ∧ ix (0 : Int32) + ix (60 : Int32) ≤ 60) (lt (rI s_27 (g0 + 3) (va_cpy (s_27.1 (g1 + 3)) (s_27.1 (g0 + 3)) (ix (0 : Int32)) (ix (0 : Int32)) (ix (60 : Int32)))) fun s_42 => chk (¬ (0 : Int32) < 0 ∧ ¬ (0 : Int32) < 0 ∧ ¬ (60 : Int32) < 0 ∧ ix (0 : Int32) + ix (60 : Int32) ≤ 60 ∧ ix (0 : Int32) + ix (60 : Int32) ≤ 60) (lt (rI s_42 (g0 + 4) (va_cpy (s_42.1 (g1 + 4)) (s_42.1 (g0 + 4)) (ix (0 : Int32)) (ix (0 : Int32)) (ix (60 : Int32)))) fun s_57 => chk (¬ (0 : Int32) < 0 ∧ ¬ (0 : Int32) < 0 ∧ ¬ (60 : Int32) < 0 ∧ ix (0 : Int32) + ix (60 : Int32) ≤ 60 ∧ ix (0 : Int32) + ix (60 : Int32) ≤ 60) (lt (rI s_57 (g0 + 5) (va_cpy (s_57.1 (g1 + 5)) (s_57.1 (g0 + 5)) (ix (0 : Int32)) (ix (0 : Int32)) (ix (60 : Int32)))) fun s_72 => chk (¬ (0 : Int32) < 0 ∧ ¬ (0 : Int32) < 0 ∧ ¬ (60 : Int32) < 0 ∧ ix (0 : Int32) + ix (60 : Int32) ≤ 60 ∧ ix (0 : Int32) + ix (60 : Int32) ≤ 60) (lt (rI s_72 (g0 + 6) (va_cpy (s_72.1 (g1 + 6)) (s_72.1 (g0 + 6)) (ix (0 : Int32)) (ix (0 : Int32)) (ix (60 : Int32)))) fun s_87 => some s_87))))))
set_option maxRecDepth 100000 in
set_option maxHeartbeats 4000000 in
theorem c_X1_takeOver (V : Ct_V) (l : Launch) (σ : Wd) (g0 : Nat) (hg0 : famG g0) (g1 : Nat) (hg1 : famG g1) {σ2 : Wd} (h : M_X1_takeOver σ g0 g1 = some σ2) : Ct l (Zc V) yX1_takeOver cX1_takeOver 2 none 1 80 [.ref (zA (Zc V) g0), .ref (zA (Zc V) g1)] σ none σ2 := by
  refine Ct_intro (own := RX1) zc_ok (by decide +kernel) rfl (Nat.le_of_ble_eq_true rfl) [(0, .ref (zA (Zc V) g0)), (1, .ref (zA (Zc V) g1))] rfl (fun K C R hKl hnL => ?_)
  have hN := nl_of hnL
  subst hKl
  refine Y_end h ?_
  unfold M_X1_takeOver
  refine x_aload_n C 0 1 dX1_takeOver_0 rfl ?_
  refine fgf_X1_11 (hg1) C 1 dX1_takeOver_1 ?_
  refine x_iconst C 4 dX1_takeOver_4 ki_0 ?_
  refine x_aload_n C 5 0 dX1_takeOver_5 rfl ?_
  refine fgf_X1_11 (hg0) C 6 dX1_takeOver_6 ?_
  refine x_iconst C 9 dX1_takeOver_9 ki_0 ?_
  refine x_bipush C 10 dX1_takeOver_10 kb_96 ?_
  refine x_copyl C 12 (ltG_1 hg1) (kG_1 V hg1 _) (ltG_1 hg0) (kG_1 V hg0) tw_1112 tw_647 tw_646 tw_56 (Nat.le_of_ble_eq_true rfl) (Nat.le_of_ble_eq_true rfl) dX1_takeOver_12 (fun _ s_12 => ?_)
  refine x_aload_n C 15 1 dX1_takeOver_15 rfl ?_
  refine fgf_X1_15 (hg1) C 16 dX1_takeOver_16 ?_
  refine x_iconst C 19 dX1_takeOver_19 ki_0 ?_
  refine x_aload_n C 20 0 dX1_takeOver_20 rfl ?_
  refine fgf_X1_15 (hg0) C 21 dX1_takeOver_21 ?_
  refine x_iconst C 24 dX1_takeOver_24 ki_0 ?_
  refine x_bipush C 25 dX1_takeOver_25 kb_60 ?_
  refine x_copyi C 27 (ltG_2 hg1) (kG_2 V hg1 _) (ltG_2 hg0) (kG_2 V hg0) tw_1112 tw_647 tw_646 tw_56 (Nat.le_of_ble_eq_true rfl) (Nat.le_of_ble_eq_true rfl) dX1_takeOver_27 (fun _ s_27 => ?_)
  refine x_aload_n C 30 1 dX1_takeOver_30 rfl ?_
  refine fgf_X1_19 (hg1) C 31 dX1_takeOver_31 ?_
  refine x_iconst C 34 dX1_takeOver_34 ki_0 ?_
  refine x_aload_n C 35 0 dX1_takeOver_35 rfl ?_
  refine fgf_X1_19 (hg0) C 36 dX1_takeOver_36 ?_
  refine x_iconst C 39 dX1_takeOver_39 ki_0 ?_
  refine x_bipush C 40 dX1_takeOver_40 kb_60 ?_
  refine x_copyi C 42 (ltG_3 hg1) (kG_3 V hg1 _) (ltG_3 hg0) (kG_3 V hg0) tw_1112 tw_647 tw_646 tw_56 (Nat.le_of_ble_eq_true rfl) (Nat.le_of_ble_eq_true rfl) dX1_takeOver_42 (fun _ s_42 => ?_)
  refine x_aload_n C 45 1 dX1_takeOver_45 rfl ?_
  refine fgf_X1_22 (hg1) C 46 dX1_takeOver_46 ?_
  refine x_iconst C 49 dX1_takeOver_49 ki_0 ?_
  refine x_aload_n C 50 0 dX1_takeOver_50 rfl ?_
  refine fgf_X1_22 (hg0) C 51 dX1_takeOver_51 ?_
  refine x_iconst C 54 dX1_takeOver_54 ki_0 ?_
  refine x_bipush C 55 dX1_takeOver_55 kb_60 ?_
  refine x_copyi C 57 (ltG_4 hg1) (kG_4 V hg1 _) (ltG_4 hg0) (kG_4 V hg0) tw_1112 tw_647 tw_646 tw_56 (Nat.le_of_ble_eq_true rfl) (Nat.le_of_ble_eq_true rfl) dX1_takeOver_57 (fun _ s_57 => ?_)
  refine x_aload_n C 60 1 dX1_takeOver_60 rfl ?_
  refine fgf_X1_25 (hg1) C 61 dX1_takeOver_61 ?_
  refine x_iconst C 64 dX1_takeOver_64 ki_0 ?_
  refine x_aload_n C 65 0 dX1_takeOver_65 rfl ?_
  refine fgf_X1_25 (hg0) C 66 dX1_takeOver_66 ?_
  refine x_iconst C 69 dX1_takeOver_69 ki_0 ?_
  refine x_bipush C 70 dX1_takeOver_70 kb_60 ?_
  refine x_copyi C 72 (ltG_5 hg1) (kG_5 V hg1 _) (ltG_5 hg0) (kG_5 V hg0) tw_1112 tw_647 tw_646 tw_56 (Nat.le_of_ble_eq_true rfl) (Nat.le_of_ble_eq_true rfl) dX1_takeOver_72 (fun _ s_72 => ?_)
  refine x_aload_n C 75 1 dX1_takeOver_75 rfl ?_
  refine fgf_X1_28 (hg1) C 76 dX1_takeOver_76 ?_
  refine x_iconst C 79 dX1_takeOver_79 ki_0 ?_
  refine x_aload_n C 80 0 dX1_takeOver_80 rfl ?_
  refine fgf_X1_28 (hg0) C 81 dX1_takeOver_81 ?_
  refine x_iconst C 84 dX1_takeOver_84 ki_0 ?_
  refine x_bipush C 85 dX1_takeOver_85 kb_60 ?_
  refine x_copyi C 87 (ltG_6 hg1) (kG_6 V hg1 _) (ltG_6 hg0) (kG_6 V hg0) tw_1112 tw_647 tw_646 tw_56 (Nat.le_of_ble_eq_true rfl) (Nat.le_of_ble_eq_true rfl) dX1_takeOver_87 (fun _ s_87 => ?_)
  exact x_vret C R 90 dX1_takeOver_90
def M_X1_copies (σ : Wd) : Option Int32 :=
  chk (ib (0 : Int32) 96) (some ((gL σ 29 (ix (0 : Int32))).toInt32))
set_option maxRecDepth 100000 in
set_option maxHeartbeats 4000000 in
theorem c_X1_copies (V : Ct_V) (l : Launch) (σ : Wd) {r : Int32} (h : M_X1_copies σ = some r) : Ct l (Zc V) yX1_copies cX1_copies 1 (some .int) 0 0 [.ref (zA (Zc V) 28)] σ (some (.int r)) σ := by
  refine Ct_intro (own := RX1) zc_ok (by decide +kernel) rfl (Nat.le_of_ble_eq_true rfl) [(0, .ref (zA (Zc V) 28))] rfl (fun K C R hKl hnL => ?_)
  have hN := nl_of hnL
  subst hKl
  refine Y_end h ?_
  unfold M_X1_copies
  refine x_aload_n C 0 0 dX1_copies_0 rfl ?_
  refine fgc_X1_11 C 1 dX1_copies_1 ?_
  refine x_iconst C 4 dX1_copies_4 ki_0 ?_
  refine x_lald C 5 (Nat.le_of_ble_eq_true rfl) (kc_29 V _) dX1_copies_5 (fun _ => ?_)
  refine x_l2i C 6 dX1_copies_6 ?_
  exact x_iret1 C R 7 dX1_copies_7
def M_X1_primary (σ : Wd) : Option Int32 :=
  chk (ib (1 : Int32) 96) (some ((gL σ 29 (ix (1 : Int32))).toInt32))
set_option maxRecDepth 100000 in
set_option maxHeartbeats 4000000 in
theorem c_X1_primary (V : Ct_V) (l : Launch) (σ : Wd) {r : Int32} (h : M_X1_primary σ = some r) : Ct l (Zc V) yX1_primary cX1_primary 1 (some .int) 0 0 [.ref (zA (Zc V) 28)] σ (some (.int r)) σ := by
  refine Ct_intro (own := RX1) zc_ok (by decide +kernel) rfl (Nat.le_of_ble_eq_true rfl) [(0, .ref (zA (Zc V) 28))] rfl (fun K C R hKl hnL => ?_)
  have hN := nl_of hnL
  subst hKl
  refine Y_end h ?_
  unfold M_X1_primary
  refine x_aload_n C 0 0 dX1_primary_0 rfl ?_
  refine fgc_X1_11 C 1 dX1_primary_1 ?_
  refine x_iconst C 4 dX1_primary_4 ki_1 ?_
  refine x_lald C 5 (Nat.le_of_ble_eq_true rfl) (kc_29 V _) dX1_primary_5 (fun _ => ?_)
  refine x_l2i C 6 dX1_primary_6 ?_
  exact x_iret1 C R 7 dX1_primary_7
def M_X1_writes (σ : Wd) : Option Int32 :=
  chk (ib (2 : Int32) 96) (some ((gL σ 29 (ix (2 : Int32))).toInt32))
set_option maxRecDepth 100000 in
set_option maxHeartbeats 4000000 in
theorem c_X1_writes (V : Ct_V) (l : Launch) (σ : Wd) {r : Int32} (h : M_X1_writes σ = some r) : Ct l (Zc V) yX1_writes cX1_writes 1 (some .int) 0 0 [.ref (zA (Zc V) 28)] σ (some (.int r)) σ := by
  refine Ct_intro (own := RX1) zc_ok (by decide +kernel) rfl (Nat.le_of_ble_eq_true rfl) [(0, .ref (zA (Zc V) 28))] rfl (fun K C R hKl hnL => ?_)
  have hN := nl_of hnL
  subst hKl
  refine Y_end h ?_
  unfold M_X1_writes
  refine x_aload_n C 0 0 dX1_writes_0 rfl ?_
  refine fgc_X1_11 C 1 dX1_writes_1 ?_
  refine x_iconst C 4 dX1_writes_4 ki_2 ?_
  refine x_lald C 5 (Nat.le_of_ble_eq_true rfl) (kc_29 V _) dX1_writes_5 (fun _ => ?_)
  refine x_l2i C 6 dX1_writes_6 ?_
  exact x_iret1 C R 7 dX1_writes_7
def M_X1_ordered (σ : Wd) : Option Int32 :=
  chk (ib (3 : Int32) 96) (some ((gL σ 29 (ix (3 : Int32))).toInt32))
set_option maxRecDepth 100000 in
set_option maxHeartbeats 4000000 in
theorem c_X1_ordered (V : Ct_V) (l : Launch) (σ : Wd) {r : Int32} (h : M_X1_ordered σ = some r) : Ct l (Zc V) yX1_ordered cX1_ordered 1 (some .int) 0 0 [.ref (zA (Zc V) 28)] σ (some (.int r)) σ := by
  refine Ct_intro (own := RX1) zc_ok (by decide +kernel) rfl (Nat.le_of_ble_eq_true rfl) [(0, .ref (zA (Zc V) 28))] rfl (fun K C R hKl hnL => ?_)
  have hN := nl_of hnL
  subst hKl
  refine Y_end h ?_
  unfold M_X1_ordered
  refine x_aload_n C 0 0 dX1_ordered_0 rfl ?_
  refine fgc_X1_11 C 1 dX1_ordered_1 ?_
  refine x_iconst C 4 dX1_ordered_4 ki_3 ?_
  refine x_lald C 5 (Nat.le_of_ble_eq_true rfl) (kc_29 V _) dX1_ordered_5 (fun _ => ?_)
  refine x_l2i C 6 dX1_ordered_6 ?_
  exact x_iret1 C R 7 dX1_ordered_7
def M_X1_chances (σ : Wd) : Option Int32 :=
  chk (ib (4 : Int32) 96) (some ((gL σ 29 (ix (4 : Int32))).toInt32))
set_option maxRecDepth 100000 in
set_option maxHeartbeats 4000000 in
theorem c_X1_chances (V : Ct_V) (l : Launch) (σ : Wd) {r : Int32} (h : M_X1_chances σ = some r) : Ct l (Zc V) yX1_chances cX1_chances 1 (some .int) 0 0 [.ref (zA (Zc V) 28)] σ (some (.int r)) σ := by
  refine Ct_intro (own := RX1) zc_ok (by decide +kernel) rfl (Nat.le_of_ble_eq_true rfl) [(0, .ref (zA (Zc V) 28))] rfl (fun K C R hKl hnL => ?_)
  have hN := nl_of hnL
  subst hKl
  refine Y_end h ?_
  unfold M_X1_chances
  refine x_aload_n C 0 0 dX1_chances_0 rfl ?_
  refine fgc_X1_11 C 1 dX1_chances_1 ?_
  refine x_iconst C 4 dX1_chances_4 ki_4 ?_
  refine x_lald C 5 (Nat.le_of_ble_eq_true rfl) (kc_29 V _) dX1_chances_5 (fun _ => ?_)
  refine x_l2i C 6 dX1_chances_6 ?_
  exact x_iret1 C R 7 dX1_chances_7
def M_X1_copyNumber (σ : Wd) (v1 : Int32) (v2 : Int32) : Option Int32 :=
  chk (ib (v1 + v2) 96) (some ((gL σ 29 (ix (v1 + v2))).toInt32))
set_option maxRecDepth 100000 in
set_option maxHeartbeats 4000000 in
theorem c_X1_copyNumber (V : Ct_V) (l : Launch) (σ : Wd) (v1 : Int32) (v2 : Int32) {r : Int32} (h : M_X1_copyNumber σ v1 v2 = some r) : Ct l (Zc V) yX1_copyNumber cX1_copyNumber 3 (some .int) 0 0 [.ref (zA (Zc V) 28), .int v1, .int v2] σ (some (.int r)) σ := by
  refine Ct_intro (own := RX1) zc_ok (by decide +kernel) rfl (Nat.le_of_ble_eq_true rfl) [(0, .ref (zA (Zc V) 28)), (1, .int v1), (2, .int v2)] rfl (fun K C R hKl hnL => ?_)
  have hN := nl_of hnL
  subst hKl
  refine Y_end h ?_
  unfold M_X1_copyNumber
  refine x_aload_n C 0 0 dX1_copyNumber_0 rfl ?_
  refine fgc_X1_11 C 1 dX1_copyNumber_1 ?_
  refine x_iload_n C 4 1 dX1_copyNumber_4 rfl ?_
  refine x_iload_n C 5 2 dX1_copyNumber_5 rfl ?_
  refine x_iadd C 6 dX1_copyNumber_6 ?_
  refine x_lald C 7 (Nat.le_of_ble_eq_true rfl) (kc_29 V _) dX1_copyNumber_7 (fun _ => ?_)
  refine x_l2i C 8 dX1_copyNumber_8 ?_
  exact x_iret1 C R 9 dX1_copyNumber_9
def M_X1_sessionNumber (σ : Wd) (v1 : Int32) (v2 : Int32) : Option Int32 :=
  chk (ib (v1 + v2) 96) (some ((gL σ 29 (ix (v1 + v2))).toInt32))
set_option maxRecDepth 100000 in
set_option maxHeartbeats 4000000 in
theorem c_X1_sessionNumber (V : Ct_V) (l : Launch) (σ : Wd) (v1 : Int32) (v2 : Int32) {r : Int32} (h : M_X1_sessionNumber σ v1 v2 = some r) : Ct l (Zc V) yX1_sessionNumber cX1_sessionNumber 3 (some .int) 0 0 [.ref (zA (Zc V) 28), .int v1, .int v2] σ (some (.int r)) σ := by
  refine Ct_intro (own := RX1) zc_ok (by decide +kernel) rfl (Nat.le_of_ble_eq_true rfl) [(0, .ref (zA (Zc V) 28)), (1, .int v1), (2, .int v2)] rfl (fun K C R hKl hnL => ?_)
  have hN := nl_of hnL
  subst hKl
  refine Y_end h ?_
  unfold M_X1_sessionNumber
  refine x_aload_n C 0 0 dX1_sessionNumber_0 rfl ?_
  refine fgc_X1_11 C 1 dX1_sessionNumber_1 ?_
  refine x_iload_n C 4 1 dX1_sessionNumber_4 rfl ?_
  refine x_iload_n C 5 2 dX1_sessionNumber_5 rfl ?_
  refine x_iadd C 6 dX1_sessionNumber_6 ?_
  refine x_lald C 7 (Nat.le_of_ble_eq_true rfl) (kc_29 V _) dX1_sessionNumber_7 (fun _ => ?_)
  refine x_l2i C 8 dX1_sessionNumber_8 ?_
  exact x_iret1 C R 9 dX1_sessionNumber_9
def M_X1_sessionVector (σ : Wd) (v1 : Int32) (v2 : Int32) (v3 : Int32) : Option Int32 :=
  chk (ib ((v1 + (v2 * (5 : Int32))) + v3) 96) (some ((gL σ 29 (ix ((v1 + (v2 * (5 : Int32))) + v3))).toInt32))
set_option maxRecDepth 100000 in
set_option maxHeartbeats 4000000 in
theorem c_X1_sessionVector (V : Ct_V) (l : Launch) (σ : Wd) (v1 : Int32) (v2 : Int32) (v3 : Int32) {r : Int32} (h : M_X1_sessionVector σ v1 v2 v3 = some r) : Ct l (Zc V) yX1_sessionVector cX1_sessionVector 4 (some .int) 0 0 [.ref (zA (Zc V) 28), .int v1, .int v2, .int v3] σ (some (.int r)) σ := by
  refine Ct_intro (own := RX1) zc_ok (by decide +kernel) rfl (Nat.le_of_ble_eq_true rfl) [(0, .ref (zA (Zc V) 28)), (1, .int v1), (2, .int v2), (3, .int v3)] rfl (fun K C R hKl hnL => ?_)
  have hN := nl_of hnL
  subst hKl
  refine Y_end h ?_
  unfold M_X1_sessionVector
  refine x_aload_n C 0 0 dX1_sessionVector_0 rfl ?_
  refine fgc_X1_11 C 1 dX1_sessionVector_1 ?_
  refine x_iload_n C 4 1 dX1_sessionVector_4 rfl ?_
  refine x_iload_n C 5 2 dX1_sessionVector_5 rfl ?_
  refine x_iconst C 6 dX1_sessionVector_6 ki_5 ?_
  refine x_imul C 7 dX1_sessionVector_7 ?_
  refine x_iadd C 8 dX1_sessionVector_8 ?_
  refine x_iload_n C 9 3 dX1_sessionVector_9 rfl ?_
  refine x_iadd C 10 dX1_sessionVector_10 ?_
  refine x_lald C 11 (Nat.le_of_ble_eq_true rfl) (kc_29 V _) dX1_sessionVector_11 (fun _ => ?_)
  refine x_l2i C 12 dX1_sessionVector_12 ?_
  exact x_iret1 C R 13 dX1_sessionVector_13
def M_X1_setOf (σ : Wd) (v1 : Int32) : Option Int64 :=
  chk (ib ((6 : Int32) + v1) 96) (some (gL σ 29 (ix ((6 : Int32) + v1))))
set_option maxRecDepth 100000 in
set_option maxHeartbeats 4000000 in
theorem c_X1_setOf (V : Ct_V) (l : Launch) (σ : Wd) (v1 : Int32) {r : Int64} (h : M_X1_setOf σ v1 = some r) : Ct l (Zc V) yX1_setOf cX1_setOf 2 (some .long) 0 0 [.ref (zA (Zc V) 28), .int v1] σ (some (.long r)) σ := by
  refine Ct_intro (own := RX1) zc_ok (by decide +kernel) rfl (Nat.le_of_ble_eq_true rfl) [(0, .ref (zA (Zc V) 28)), (1, .int v1)] rfl (fun K C R hKl hnL => ?_)
  have hN := nl_of hnL
  subst hKl
  refine Y_end h ?_
  unfold M_X1_setOf
  refine x_aload_n C 0 0 dX1_setOf_0 rfl ?_
  refine fgc_X1_11 C 1 dX1_setOf_1 ?_
  refine x_bipush C 4 dX1_setOf_4 kb_6 ?_
  refine x_iload_n C 6 1 dX1_setOf_6 rfl ?_
  refine x_iadd C 7 dX1_setOf_7 ?_
  refine x_lald C 8 (Nat.le_of_ble_eq_true rfl) (kc_29 V _) dX1_setOf_8 (fun _ => ?_)
  exact x_lret1 C R 9 dX1_setOf_9
def M_X1_knownOf (σ : Wd) (v1 : Int32) : Option Int32 :=
  chk (ib ((11 : Int32) + v1) 96) (some ((gL σ 29 (ix ((11 : Int32) + v1))).toInt32))
set_option maxRecDepth 100000 in
set_option maxHeartbeats 4000000 in
theorem c_X1_knownOf (V : Ct_V) (l : Launch) (σ : Wd) (v1 : Int32) {r : Int32} (h : M_X1_knownOf σ v1 = some r) : Ct l (Zc V) yX1_knownOf cX1_knownOf 2 (some .int) 0 0 [.ref (zA (Zc V) 28), .int v1] σ (some (.int r)) σ := by
  refine Ct_intro (own := RX1) zc_ok (by decide +kernel) rfl (Nat.le_of_ble_eq_true rfl) [(0, .ref (zA (Zc V) 28)), (1, .int v1)] rfl (fun K C R hKl hnL => ?_)
  have hN := nl_of hnL
  subst hKl
  refine Y_end h ?_
  unfold M_X1_knownOf
  refine x_aload_n C 0 0 dX1_knownOf_0 rfl ?_
  refine fgc_X1_11 C 1 dX1_knownOf_1 ?_
  refine x_bipush C 4 dX1_knownOf_4 kb_11 ?_
  refine x_iload_n C 6 1 dX1_knownOf_6 rfl ?_
  refine x_iadd C 7 dX1_knownOf_7 ?_
  refine x_lald C 8 (Nat.le_of_ble_eq_true rfl) (kc_29 V _) dX1_knownOf_8 (fun _ => ?_)
  refine x_l2i C 9 dX1_knownOf_9 ?_
  exact x_iret1 C R 10 dX1_knownOf_10
def M_X1_hasIt (σ : Wd) (v1 : Int32) (v2 : Int32) : Option Int32 :=
  bnd1 (M_X1_setOf σ v1) fun r2 => if (lg_cmp ((r2 >>> (v2.toInt64 &&& 63)) &&& (1 : Int64)) (0 : Int64)) = 0 then (some (0 : Int32)) else (some (1 : Int32))
set_option maxRecDepth 100000 in
set_option maxHeartbeats 4000000 in
theorem c_X1_hasIt (V : Ct_V) (l : Launch) (σ : Wd) (v1 : Int32) (v2 : Int32) {r : Int32} (h : M_X1_hasIt σ v1 v2 = some r) : Ct l (Zc V) yX1_hasIt cX1_hasIt 3 (some .boolean) 1 21 [.ref (zA (Zc V) 28), .int v1, .int v2] σ (some (.int r)) σ := by
  refine Ct_intro (own := RX1) zc_ok (by decide +kernel) rfl (Nat.le_of_ble_eq_true rfl) [(0, .ref (zA (Zc V) 28)), (1, .int v1), (2, .int v2)] rfl (fun K C R hKl hnL => ?_)
  have hN := nl_of hnL
  subst hKl
  refine Y_end h ?_
  unfold M_X1_hasIt
  refine x_aload_n C 0 0 dX1_hasIt_0 rfl ?_
  refine x_iload_n C 1 1 dX1_hasIt_1 rfl ?_
  refine Y_bnd1 (fun r2 h2 => ?_)
  refine x_callVl C 2 [.int v1] [] rfl tw_677 mv_X1_setOf (Nat.le_of_ble_eq_true rfl) (Nat.le_of_ble_eq_true rfl) (Nat.le_of_ble_eq_true rfl) (Nat.le_of_ble_eq_true rfl) (kc_28 V _) rfl dX1_hasIt_2 (c_X1_setOf V _ _ _ h2) ?_
  refine x_iload_n C 5 2 dX1_hasIt_5 rfl ?_
  refine x_lshr C 6 dX1_hasIt_6 ?_
  refine x_lconst C 7 dX1_hasIt_7 kl_1 ?_
  refine x_land C 8 dX1_hasIt_8 ?_
  refine x_lconst C 9 dX1_hasIt_9 kl_0 ?_
  refine x_lcmp C 10 dX1_hasIt_10 ?_
  refine x_if_eq C 11 18 dX1_hasIt_11 (by decide) (fun _ => ?_) (fun _ => ?_)
  · refine x_iconst C 18 dX1_hasIt_18 ki_0 ?_
    exact x_zret1 C R 19 (zb_nar (r := (0 : Int32)) (Or.inl rfl)) dX1_hasIt_19
  · refine x_iconst C 14 dX1_hasIt_14 ki_1 ?_
    refine x_goto C 15 19 dX1_hasIt_15 (by decide) ?_
    exact x_zret1 C R 19 (zb_nar (r := (1 : Int32)) (Or.inr rfl)) dX1_hasIt_19
def M_X1_placeInOrder_L2 (σ : Wd) (v1 : Int32) (v2 : Int32) : Option ((Int32) ⊕ ((Unit) ⊕ Int32)) :=
  bnd1 (M_X1_ordered σ) fun r4 => if r4 ≤ v2 then (some (.inr (.inl ()))) else (chk (ib v2 60) (if (gI σ 34 (ix v2)) ≠ v1 then (lt (v2 + (1 : Int32)) fun v2_22 => some (.inl v2_22)) else (some (.inr (.inr v2)))))
def M_X1_placeInOrder (σ : Wd) (v1 : Int32) : Option Int32 :=
  bnd1 (iter (fun s : Int32 => M_X1_placeInOrder_L2 σ v1 s) FU (0 : Int32)) (sx (un0 (some (-2 : Int32))) (fun q => some q))
set_option maxRecDepth 100000 in
set_option maxHeartbeats 4000000 in
theorem c_X1_placeInOrder (V : Ct_V) (l : Launch) (σ : Wd) (v1 : Int32) {r : Int32} (h : M_X1_placeInOrder σ v1 = some r) : Ct l (Zc V) yX1_placeInOrder cX1_placeInOrder 3 (some .int) 1 20 [.ref (zA (Zc V) 28), .int v1] σ (some (.int r)) σ := by
  refine Ct_intro (own := RX1) zc_ok (by decide +kernel) rfl (Nat.le_of_ble_eq_true rfl) [(0, .ref (zA (Zc V) 28)), (1, .int v1)] rfl (fun K C R hKl hnL => ?_)
  have hN := nl_of hnL
  subst hKl
  refine Y_end h ?_
  unfold M_X1_placeInOrder
  refine x_iconst C 0 dX1_placeInOrder_0 ki_0 ?_
  refine x_istore_n C 1 (L' := [(2, .int (0 : Int32)), (0, .ref (zA (Zc V) 28)), (1, .int v1)]) dX1_placeInOrder_1 rfl (hN _ (Nat.le_of_ble_eq_true rfl)) rfl ?_
  refine Y_sub [1, 2, 0] rfl ?_
  refine x_loop 2 (fun s : Int32 => σ) (fun s : Int32 => [(0, .ref (zA (Zc V) 28)), (1, .int v1), (2, .int s)]) (fun E2 hb2 hx2 s => ?_) FU (0 : Int32)
  obtain ⟨v2_2, rfl⟩ : ∃ z, z = s := ⟨s, rfl⟩
  show Y K (Zc V) (M_X1_placeInOrder_L2 σ v1 v2_2) E2 σ 2 [(0, .ref (zA (Zc V) 28)), (1, .int v1), (2, .int v2_2)] []
  unfold M_X1_placeInOrder_L2
  refine x_iload_n C 2 2 dX1_placeInOrder_2 rfl ?_
  refine x_aload_n C 3 0 dX1_placeInOrder_3 rfl ?_
  refine Y_bnd1 (fun r4 h4 => ?_)
  refine x_callVi C 4 [] [.int v2_2] rfl tw_720 mv_X1_ordered (Nat.le_of_ble_eq_true rfl) (Nat.le_of_ble_eq_true rfl) (Nat.le_of_ble_eq_true rfl) (Nat.le_of_ble_eq_true rfl) (kc_28 V _) rfl dX1_placeInOrder_4 (c_X1_ordered V _ _  h4) ?_
  refine x_icmp_ge C 7 28 dX1_placeInOrder_7 (by decide) (fun _ => ?_) (fun _ => ?_)
  · refine x_exl0 hx2 ?_
    refine x_bipush C 28 dX1_placeInOrder_28 kb_m2 ?_
    exact x_iret1 C R 30 dX1_placeInOrder_30
  · refine x_aload_n C 10 0 dX1_placeInOrder_10 rfl ?_
    refine fgc_X1_28 C 11 dX1_placeInOrder_11 ?_
    refine x_iload_n C 14 2 dX1_placeInOrder_14 rfl ?_
    refine x_iald C 15 (Nat.le_of_ble_eq_true rfl) (kc_34 V _) dX1_placeInOrder_15 (fun _ => ?_)
    refine x_iload_n C 16 1 dX1_placeInOrder_16 rfl ?_
    refine x_icmp_ne C 17 22 dX1_placeInOrder_17 (by decide) (fun _ => ?_) (fun _ => ?_)
    · refine x_iinct C 22 2 (1 : Int32) (fun v2_22 => [(2, .int v2_22), (0, .ref (zA (Zc V) 28)), (1, .int v1)]) dX1_placeInOrder_22 rfl ki_1 (hN _ (Nat.le_of_ble_eq_true rfl)) (fun _ => rfl) (fun v2_22 => ?_)
      refine x_goto C 25 2 dX1_placeInOrder_25 (by decide) ?_
      refine Y_sub [1, 2, 0] rfl ?_
      exact x_back v2_22 (hb2 v2_22)
    · refine x_iload_n C 20 2 dX1_placeInOrder_20 rfl ?_
      refine x_exr hx2 _ ?_
      exact x_iret1 C R 21 dX1_placeInOrder_21
def M_X1_holders_L4 (σ : Wd) (v1 : Int32) (v2 : Int32) (v3 : Int32) : Option ((Int32 × Int32) ⊕ (Int32)) :=
  bnd1 (M_X1_copies σ) fun r6 => if r6 ≤ v3 then (some (.inr v2)) else (bnd1 (M_X1_hasIt σ v3 v1) fun r15 => if r15 = 0 then (lt (v3 + (1 : Int32)) fun v3_27 => some (.inl (v2, v3_27))) else (lt (v2 ||| ((1 : Int32) <<< (v3 &&& 31))) fun v2_26 => lt (v3 + (1 : Int32)) fun v3_27 => some (.inl (v2_26, v3_27))))
def M_X1_holders (σ : Wd) (v1 : Int32) : Option Int32 :=
  bnd1 (iter (fun s : Int32 × Int32 => M_X1_holders_L4 σ v1 s.1 s.2) FU ((0 : Int32), (0 : Int32))) (un1 fun x2_4 => (some x2_4))
set_option maxRecDepth 100000 in
set_option maxHeartbeats 4000000 in
theorem c_X1_holders (V : Ct_V) (l : Launch) (σ : Wd) (v1 : Int32) {r : Int32} (h : M_X1_holders σ v1 = some r) : Ct l (Zc V) yX1_holders cX1_holders 4 (some .int) 2 43 [.ref (zA (Zc V) 28), .int v1] σ (some (.int r)) σ := by
  refine Ct_intro (own := RX1) zc_ok (by decide +kernel) rfl (Nat.le_of_ble_eq_true rfl) [(0, .ref (zA (Zc V) 28)), (1, .int v1)] rfl (fun K C R hKl hnL => ?_)
  have hN := nl_of hnL
  subst hKl
  refine Y_end h ?_
  unfold M_X1_holders
  refine x_iconst C 0 dX1_holders_0 ki_0 ?_
  refine x_istore_n C 1 (L' := [(2, .int (0 : Int32)), (0, .ref (zA (Zc V) 28)), (1, .int v1)]) dX1_holders_1 rfl (hN _ (Nat.le_of_ble_eq_true rfl)) rfl ?_
  refine x_iconst C 2 dX1_holders_2 ki_0 ?_
  refine x_istore_n C 3 (L' := [(3, .int (0 : Int32)), (2, .int (0 : Int32)), (0, .ref (zA (Zc V) 28)), (1, .int v1)]) dX1_holders_3 rfl (hN _ (Nat.le_of_ble_eq_true rfl)) rfl ?_
  refine Y_sub [2, 3, 1, 0] rfl ?_
  refine x_loop 4 (fun s : Int32 × Int32 => σ) (fun s : Int32 × Int32 => [(0, .ref (zA (Zc V) 28)), (1, .int v1), (2, .int s.1), (3, .int s.2)]) (fun E4 hb4 hx4 s => ?_) FU ((0 : Int32), (0 : Int32))
  obtain ⟨v2_4, v3_4⟩ := s
  show Y K (Zc V) (M_X1_holders_L4 σ v1 v2_4 v3_4) E4 σ 4 [(0, .ref (zA (Zc V) 28)), (1, .int v1), (2, .int v2_4), (3, .int v3_4)] []
  unfold M_X1_holders_L4
  refine x_iload_n C 4 3 dX1_holders_4 rfl ?_
  refine x_aload_n C 5 0 dX1_holders_5 rfl ?_
  refine Y_bnd1 (fun r6 h6 => ?_)
  refine x_callVi C 6 [] [.int v3_4] rfl tw_661 mv_X1_copies (Nat.le_of_ble_eq_true rfl) (Nat.le_of_ble_eq_true rfl) (Nat.le_of_ble_eq_true rfl) (Nat.le_of_ble_eq_true rfl) (kc_28 V _) rfl dX1_holders_6 (c_X1_copies V _ _  h6) ?_
  refine x_icmp_ge C 9 33 dX1_holders_9 (by decide) (fun _ => ?_) (fun _ => ?_)
  · refine x_ex1 hx4 v2_4 ?_
    refine x_iload_n C 33 2 dX1_holders_33 rfl ?_
    exact x_iret1 C R 34 dX1_holders_34
  · refine x_aload_n C 12 0 dX1_holders_12 rfl ?_
    refine x_iload_n C 13 3 dX1_holders_13 rfl ?_
    refine x_iload_n C 14 1 dX1_holders_14 rfl ?_
    refine Y_bnd1 (fun r15 h15 => ?_)
    refine x_callVi C 15 [.int v3_4, .int v1] [] rfl tw_673 mv_X1_hasIt (Nat.le_of_ble_eq_true rfl) (Nat.le_of_ble_eq_true rfl) (Nat.le_of_ble_eq_true rfl) (Nat.le_of_ble_eq_true rfl) (kc_28 V _) rfl dX1_holders_15 (c_X1_hasIt V _ _ _ _ h15) ?_
    refine x_if_eq C 18 27 dX1_holders_18 (by decide) (fun _ => ?_) (fun _ => ?_)
    · refine x_iinct C 27 3 (1 : Int32) (fun v3_27 => [(3, .int v3_27), (0, .ref (zA (Zc V) 28)), (1, .int v1), (2, .int v2_4)]) dX1_holders_27 rfl ki_1 (hN _ (Nat.le_of_ble_eq_true rfl)) (fun _ => rfl) (fun v3_27 => ?_)
      refine x_goto C 30 4 dX1_holders_30 (by decide) ?_
      refine Y_sub [1, 2, 3, 0] rfl ?_
      exact x_back (v2_4, v3_27) (hb4 (v2_4, v3_27))
    · refine x_iload_n C 21 2 dX1_holders_21 rfl ?_
      refine x_iconst C 22 dX1_holders_22 ki_1 ?_
      refine x_iload_n C 23 3 dX1_holders_23 rfl ?_
      refine x_ishl C 24 dX1_holders_24 ?_
      refine x_ior C 25 dX1_holders_25 ?_
      refine x_istore_nt C 26 (fun v2_26 => [(2, .int v2_26), (0, .ref (zA (Zc V) 28)), (1, .int v1), (3, .int v3_4)]) dX1_holders_26 rfl (hN _ (Nat.le_of_ble_eq_true rfl)) (fun _ => rfl) (fun v2_26 => ?_)
      refine x_iinct C 27 3 (1 : Int32) (fun v3_27 => [(3, .int v3_27), (2, .int v2_26), (0, .ref (zA (Zc V) 28)), (1, .int v1)]) dX1_holders_27 rfl ki_1 (hN _ (Nat.le_of_ble_eq_true rfl)) (fun _ => rfl) (fun v3_27 => ?_)
      refine x_goto C 30 4 dX1_holders_30 (by decide) ?_
      refine Y_sub [2, 3, 1, 0] rfl ?_
      exact x_back (v2_26, v3_27) (hb4 (v2_26, v3_27))
def M_X1_knowers_L11 (σ : Wd) (v2 : Int32) (v3 : Int32) (v4 : Int32) : Option ((Int32 × Int32) ⊕ (Int32)) :=
  bnd1 (M_X1_copies σ) fun r14 => if r14 ≤ v4 then (some (.inr v3)) else (if v2 = (-2 : Int32) then (some (.inr v3)) else (bnd1 (M_X1_knownOf σ v4) fun r30 => if r30 ≤ v2 then (lt (v4 + (1 : Int32)) fun v4_43 => some (.inl (v3, v4_43))) else (lt (v3 ||| ((1 : Int32) <<< (v4 &&& 31))) fun v3_42 => lt (v4 + (1 : Int32)) fun v4_43 => some (.inl (v3_42, v4_43)))))
def M_X1_knowers (σ : Wd) (v1 : Int32) : Option Int32 :=
  bnd1 (M_X1_placeInOrder σ v1) fun r2 => bnd1 (iter (fun s : Int32 × Int32 => M_X1_knowers_L11 σ r2 s.1 s.2) FU ((0 : Int32), (0 : Int32))) (un1 fun x3_11 => (some x3_11))
set_option maxRecDepth 100000 in
set_option maxHeartbeats 4000000 in
theorem c_X1_knowers (V : Ct_V) (l : Launch) (σ : Wd) (v1 : Int32) {r : Int32} (h : M_X1_knowers σ v1 = some r) : Ct l (Zc V) yX1_knowers cX1_knowers 5 (some .int) 2 42 [.ref (zA (Zc V) 28), .int v1] σ (some (.int r)) σ := by
  refine Ct_intro (own := RX1) zc_ok (by decide +kernel) rfl (Nat.le_of_ble_eq_true rfl) [(0, .ref (zA (Zc V) 28)), (1, .int v1)] rfl (fun K C R hKl hnL => ?_)
  have hN := nl_of hnL
  subst hKl
  refine Y_end h ?_
  unfold M_X1_knowers
  refine x_aload_n C 0 0 dX1_knowers_0 rfl ?_
  refine x_iload_n C 1 1 dX1_knowers_1 rfl ?_
  refine Y_bnd1 (fun r2 h2 => ?_)
  refine x_callVi C 2 [.int v1] [] rfl tw_912 mv_X1_placeInOrder (Nat.le_of_ble_eq_true rfl) (Nat.le_of_ble_eq_true rfl) (Nat.le_of_ble_eq_true rfl) (Nat.le_of_ble_eq_true rfl) (kc_28 V _) rfl dX1_knowers_2 (c_X1_placeInOrder V _ _ _ h2) ?_
  refine x_istore_n C 5 (L' := [(2, .int r2), (0, .ref (zA (Zc V) 28)), (1, .int v1)]) dX1_knowers_5 rfl (hN _ (Nat.le_of_ble_eq_true rfl)) rfl ?_
  refine x_iconst C 6 dX1_knowers_6 ki_0 ?_
  refine x_istore_n C 7 (L' := [(3, .int (0 : Int32)), (2, .int r2), (0, .ref (zA (Zc V) 28)), (1, .int v1)]) dX1_knowers_7 rfl (hN _ (Nat.le_of_ble_eq_true rfl)) rfl ?_
  refine x_iconst C 8 dX1_knowers_8 ki_0 ?_
  refine x_istore C 9 (L' := [(4, .int (0 : Int32)), (3, .int (0 : Int32)), (2, .int r2), (0, .ref (zA (Zc V) 28)), (1, .int v1)]) dX1_knowers_9 (hN _ (Nat.le_of_ble_eq_true rfl)) rfl ?_
  refine Y_sub [3, 2, 1, 0] rfl ?_
  refine x_loop 11 (fun s : Int32 × Int32 => σ) (fun s : Int32 × Int32 => [(0, .ref (zA (Zc V) 28)), (2, .int r2), (3, .int s.1), (4, .int s.2)]) (fun E11 hb11 hx11 s => ?_) FU ((0 : Int32), (0 : Int32))
  obtain ⟨v3_11, v4_11⟩ := s
  show Y K (Zc V) (M_X1_knowers_L11 σ r2 v3_11 v4_11) E11 σ 11 [(0, .ref (zA (Zc V) 28)), (2, .int r2), (3, .int v3_11), (4, .int v4_11)] []
  unfold M_X1_knowers_L11
  refine x_iload C 11 3 dX1_knowers_11 rfl ?_
  refine x_aload_n C 13 0 dX1_knowers_13 rfl ?_
  refine Y_bnd1 (fun r14 h14 => ?_)
  refine x_callVi C 14 [] [.int v4_11] rfl tw_661 mv_X1_copies (Nat.le_of_ble_eq_true rfl) (Nat.le_of_ble_eq_true rfl) (Nat.le_of_ble_eq_true rfl) (Nat.le_of_ble_eq_true rfl) (kc_28 V _) rfl dX1_knowers_14 (c_X1_copies V _ _  h14) ?_
  refine x_icmp_ge C 17 49 dX1_knowers_17 (by decide) (fun _ => ?_) (fun _ => ?_)
  · refine x_ex1 hx11 v3_11 ?_
    refine x_iload_n C 49 2 dX1_knowers_49 rfl ?_
    exact x_iret1 C R 50 dX1_knowers_50
  · refine x_iload_n C 20 1 dX1_knowers_20 rfl ?_
    refine x_bipush C 21 dX1_knowers_21 kb_m2 ?_
    refine x_icmp_eq C 23 49 dX1_knowers_23 (by decide) (fun _ => ?_) (fun _ => ?_)
    · refine x_ex1 hx11 v3_11 ?_
      refine x_iload_n C 49 2 dX1_knowers_49 rfl ?_
      exact x_iret1 C R 50 dX1_knowers_50
    · refine x_iload_n C 26 1 dX1_knowers_26 rfl ?_
      refine x_aload_n C 27 0 dX1_knowers_27 rfl ?_
      refine x_iload C 28 3 dX1_knowers_28 rfl ?_
      refine Y_bnd1 (fun r30 h30 => ?_)
      refine x_callVi C 30 [.int v4_11] [.int r2] rfl tw_703 mv_X1_knownOf (Nat.le_of_ble_eq_true rfl) (Nat.le_of_ble_eq_true rfl) (Nat.le_of_ble_eq_true rfl) (Nat.le_of_ble_eq_true rfl) (kc_28 V _) rfl dX1_knowers_30 (c_X1_knownOf V _ _ _ h30) ?_
      refine x_icmp_ge C 33 43 dX1_knowers_33 (by decide) (fun _ => ?_) (fun _ => ?_)
      · refine x_iinct C 43 3 (1 : Int32) (fun v4_43 => [(4, .int v4_43), (0, .ref (zA (Zc V) 28)), (2, .int r2), (3, .int v3_11)]) dX1_knowers_43 rfl ki_1 (hN _ (Nat.le_of_ble_eq_true rfl)) (fun _ => rfl) (fun v4_43 => ?_)
        refine x_goto C 46 11 dX1_knowers_46 (by decide) ?_
        refine Y_sub [1, 2, 3, 0] rfl ?_
        exact x_back (v3_11, v4_43) (hb11 (v3_11, v4_43))
      · refine x_iload_n C 36 2 dX1_knowers_36 rfl ?_
        refine x_iconst C 37 dX1_knowers_37 ki_1 ?_
        refine x_iload C 38 3 dX1_knowers_38 rfl ?_
        refine x_ishl C 40 dX1_knowers_40 ?_
        refine x_ior C 41 dX1_knowers_41 ?_
        refine x_istore_nt C 42 (fun v3_42 => [(3, .int v3_42), (0, .ref (zA (Zc V) 28)), (2, .int r2), (4, .int v4_11)]) dX1_knowers_42 rfl (hN _ (Nat.le_of_ble_eq_true rfl)) (fun _ => rfl) (fun v3_42 => ?_)
        refine x_iinct C 43 3 (1 : Int32) (fun v4_43 => [(4, .int v4_43), (3, .int v3_42), (0, .ref (zA (Zc V) 28)), (2, .int r2)]) dX1_knowers_43 rfl ki_1 (hN _ (Nat.le_of_ble_eq_true rfl)) (fun _ => rfl) (fun v4_43 => ?_)
        refine x_goto C 46 11 dX1_knowers_46 (by decide) ?_
        refine Y_sub [2, 3, 1, 0] rfl ?_
        exact x_back (v3_42, v4_43) (hb11 (v3_42, v4_43))
def M_X1_vectorOf_L7 (σ : Wd) (v1 : Int32) (v2 : Int32) (v3 : Int32) : Option ((Int32) ⊕ ((Unit) ⊕ Int32)) :=
  if v3 < 0 then (some (.inr (.inl ()))) else (chk (ib v3 60) (if (gI σ 32 (ix v3)) ≠ v2 then (lt (v3 + (-1 : Int32)) fun v3_37 => some (.inl v3_37)) else (bnd1 (M_X1_hasIt σ v1 v3) fun r24 => if r24 = 0 then (lt (v3 + (-1 : Int32)) fun v3_37 => some (.inl v3_37)) else (chk (ib v3 60) (some (.inr (.inr (gI σ 33 (ix v3)))))))))
def M_X1_vectorOf (σ : Wd) (v1 : Int32) (v2 : Int32) : Option Int32 :=
  bnd1 (M_X1_writes σ) fun r1 => lt (r1 - (1 : Int32)) fun v3_6 => bnd1 (iter (fun s : Int32 => M_X1_vectorOf_L7 σ v1 v2 s) FU v3_6) (sx (un0 (some (0 : Int32))) (fun q => some q))
set_option maxRecDepth 100000 in
set_option maxHeartbeats 4000000 in
theorem c_X1_vectorOf (V : Ct_V) (l : Launch) (σ : Wd) (v1 : Int32) (v2 : Int32) {r : Int32} (h : M_X1_vectorOf σ v1 v2 = some r) : Ct l (Zc V) yX1_vectorOf cX1_vectorOf 4 (some .int) 2 43 [.ref (zA (Zc V) 28), .int v1, .int v2] σ (some (.int r)) σ := by
  refine Ct_intro (own := RX1) zc_ok (by decide +kernel) rfl (Nat.le_of_ble_eq_true rfl) [(0, .ref (zA (Zc V) 28)), (1, .int v1), (2, .int v2)] rfl (fun K C R hKl hnL => ?_)
  have hN := nl_of hnL
  subst hKl
  refine Y_end h ?_
  unfold M_X1_vectorOf
  refine x_aload_n C 0 0 dX1_vectorOf_0 rfl ?_
  refine Y_bnd1 (fun r1 h1 => ?_)
  refine x_callVi C 1 [] [] rfl tw_669 mv_X1_writes (Nat.le_of_ble_eq_true rfl) (Nat.le_of_ble_eq_true rfl) (Nat.le_of_ble_eq_true rfl) (Nat.le_of_ble_eq_true rfl) (kc_28 V _) rfl dX1_vectorOf_1 (c_X1_writes V _ _  h1) ?_
  refine x_iconst C 4 dX1_vectorOf_4 ki_1 ?_
  refine x_isub C 5 dX1_vectorOf_5 ?_
  refine x_istore_nt C 6 (fun v3_6 => [(3, .int v3_6), (0, .ref (zA (Zc V) 28)), (1, .int v1), (2, .int v2)]) dX1_vectorOf_6 rfl (hN _ (Nat.le_of_ble_eq_true rfl)) (fun _ => rfl) (fun v3_6 => ?_)
  refine Y_sub [1, 2, 3, 0] rfl ?_
  refine x_loop 7 (fun s : Int32 => σ) (fun s : Int32 => [(0, .ref (zA (Zc V) 28)), (1, .int v1), (2, .int v2), (3, .int s)]) (fun E7 hb7 hx7 s => ?_) FU v3_6
  obtain ⟨v3_7, rfl⟩ : ∃ z, z = s := ⟨s, rfl⟩
  show Y K (Zc V) (M_X1_vectorOf_L7 σ v1 v2 v3_7) E7 σ 7 [(0, .ref (zA (Zc V) 28)), (1, .int v1), (2, .int v2), (3, .int v3_7)] []
  unfold M_X1_vectorOf_L7
  refine x_iload_n C 7 3 dX1_vectorOf_7 rfl ?_
  refine x_if_lt C 8 43 dX1_vectorOf_8 (by decide) (fun _ => ?_) (fun _ => ?_)
  · refine x_exl0 hx7 ?_
    refine x_iconst C 43 dX1_vectorOf_43 ki_0 ?_
    exact x_iret1 C R 44 dX1_vectorOf_44
  · refine x_aload_n C 11 0 dX1_vectorOf_11 rfl ?_
    refine fgc_X1_22 C 12 dX1_vectorOf_12 ?_
    refine x_iload_n C 15 3 dX1_vectorOf_15 rfl ?_
    refine x_iald C 16 (Nat.le_of_ble_eq_true rfl) (kc_32 V _) dX1_vectorOf_16 (fun _ => ?_)
    refine x_iload_n C 17 2 dX1_vectorOf_17 rfl ?_
    refine x_icmp_ne C 18 37 dX1_vectorOf_18 (by decide) (fun _ => ?_) (fun _ => ?_)
    · refine x_iinct C 37 3 (-1 : Int32) (fun v3_37 => [(3, .int v3_37), (0, .ref (zA (Zc V) 28)), (1, .int v1), (2, .int v2)]) dX1_vectorOf_37 rfl ki_m1 (hN _ (Nat.le_of_ble_eq_true rfl)) (fun _ => rfl) (fun v3_37 => ?_)
      refine x_goto C 40 7 dX1_vectorOf_40 (by decide) ?_
      refine Y_sub [1, 2, 3, 0] rfl ?_
      exact x_back v3_37 (hb7 v3_37)
    · refine x_aload_n C 21 0 dX1_vectorOf_21 rfl ?_
      refine x_iload_n C 22 1 dX1_vectorOf_22 rfl ?_
      refine x_iload_n C 23 3 dX1_vectorOf_23 rfl ?_
      refine Y_bnd1 (fun r24 h24 => ?_)
      refine x_callVi C 24 [.int v1, .int v3_7] [] rfl tw_673 mv_X1_hasIt (Nat.le_of_ble_eq_true rfl) (Nat.le_of_ble_eq_true rfl) (Nat.le_of_ble_eq_true rfl) (Nat.le_of_ble_eq_true rfl) (kc_28 V _) rfl dX1_vectorOf_24 (c_X1_hasIt V _ _ _ _ h24) ?_
      refine x_if_eq C 27 37 dX1_vectorOf_27 (by decide) (fun _ => ?_) (fun _ => ?_)
      · refine x_iinct C 37 3 (-1 : Int32) (fun v3_37 => [(3, .int v3_37), (0, .ref (zA (Zc V) 28)), (1, .int v1), (2, .int v2)]) dX1_vectorOf_37 rfl ki_m1 (hN _ (Nat.le_of_ble_eq_true rfl)) (fun _ => rfl) (fun v3_37 => ?_)
        refine x_goto C 40 7 dX1_vectorOf_40 (by decide) ?_
        refine Y_sub [1, 2, 3, 0] rfl ?_
        exact x_back v3_37 (hb7 v3_37)
      · refine x_aload_n C 30 0 dX1_vectorOf_30 rfl ?_
        refine fgc_X1_25 C 31 dX1_vectorOf_31 ?_
        refine x_iload_n C 34 3 dX1_vectorOf_34 rfl ?_
        refine x_iald C 35 (Nat.le_of_ble_eq_true rfl) (kc_33 V _) dX1_vectorOf_35 (fun _ => ?_)
        refine x_exr hx7 _ ?_
        exact x_iret1 C R 36 dX1_vectorOf_36
def M_X1_clockOf_L4 (σ : Wd) (v1 : Int32) (v2 : Int32) (v3 : Int32) : Option ((Int32 × Int32) ⊕ (Int32)) :=
  bnd1 (M_X1_copies σ) fun r6 => if r6 ≤ v3 then (some (.inr v2)) else (bnd1 (M_X1_vectorOf σ v1 v3) fun r16 => lt (if v2 < r16 then r16 else v2) fun v2_22 => lt (v3 + (1 : Int32)) fun v3_23 => some (.inl (v2_22, v3_23)))
def M_X1_clockOf (σ : Wd) (v1 : Int32) : Option Int32 :=
  bnd1 (iter (fun s : Int32 × Int32 => M_X1_clockOf_L4 σ v1 s.1 s.2) FU ((0 : Int32), (0 : Int32))) (un1 fun x2_4 => (some x2_4))
set_option maxRecDepth 100000 in
set_option maxHeartbeats 4000000 in
theorem c_X1_clockOf (V : Ct_V) (l : Launch) (σ : Wd) (v1 : Int32) {r : Int32} (h : M_X1_clockOf σ v1 = some r) : Ct l (Zc V) yX1_clockOf cX1_clockOf 4 (some .int) 3 66 [.ref (zA (Zc V) 28), .int v1] σ (some (.int r)) σ := by
  refine Ct_intro (own := RX1) zc_ok (by decide +kernel) rfl (Nat.le_of_ble_eq_true rfl) [(0, .ref (zA (Zc V) 28)), (1, .int v1)] rfl (fun K C R hKl hnL => ?_)
  have hN := nl_of hnL
  subst hKl
  refine Y_end h ?_
  unfold M_X1_clockOf
  refine x_iconst C 0 dX1_clockOf_0 ki_0 ?_
  refine x_istore_n C 1 (L' := [(2, .int (0 : Int32)), (0, .ref (zA (Zc V) 28)), (1, .int v1)]) dX1_clockOf_1 rfl (hN _ (Nat.le_of_ble_eq_true rfl)) rfl ?_
  refine x_iconst C 2 dX1_clockOf_2 ki_0 ?_
  refine x_istore_n C 3 (L' := [(3, .int (0 : Int32)), (2, .int (0 : Int32)), (0, .ref (zA (Zc V) 28)), (1, .int v1)]) dX1_clockOf_3 rfl (hN _ (Nat.le_of_ble_eq_true rfl)) rfl ?_
  refine Y_sub [2, 3, 1, 0] rfl ?_
  refine x_loop 4 (fun s : Int32 × Int32 => σ) (fun s : Int32 × Int32 => [(0, .ref (zA (Zc V) 28)), (1, .int v1), (2, .int s.1), (3, .int s.2)]) (fun E4 hb4 hx4 s => ?_) FU ((0 : Int32), (0 : Int32))
  obtain ⟨v2_4, v3_4⟩ := s
  show Y K (Zc V) (M_X1_clockOf_L4 σ v1 v2_4 v3_4) E4 σ 4 [(0, .ref (zA (Zc V) 28)), (1, .int v1), (2, .int v2_4), (3, .int v3_4)] []
  unfold M_X1_clockOf_L4
  refine x_iload_n C 4 3 dX1_clockOf_4 rfl ?_
  refine x_aload_n C 5 0 dX1_clockOf_5 rfl ?_
  refine Y_bnd1 (fun r6 h6 => ?_)
  refine x_callVi C 6 [] [.int v3_4] rfl tw_661 mv_X1_copies (Nat.le_of_ble_eq_true rfl) (Nat.le_of_ble_eq_true rfl) (Nat.le_of_ble_eq_true rfl) (Nat.le_of_ble_eq_true rfl) (kc_28 V _) rfl dX1_clockOf_6 (c_X1_copies V _ _  h6) ?_
  refine x_icmp_ge C 9 29 dX1_clockOf_9 (by decide) (fun _ => ?_) (fun _ => ?_)
  · refine x_ex1 hx4 v2_4 ?_
    refine x_iload_n C 29 2 dX1_clockOf_29 rfl ?_
    exact x_iret1 C R 30 dX1_clockOf_30
  · refine x_iload_n C 12 2 dX1_clockOf_12 rfl ?_
    refine x_aload_n C 13 0 dX1_clockOf_13 rfl ?_
    refine x_iload_n C 14 1 dX1_clockOf_14 rfl ?_
    refine x_iload_n C 15 3 dX1_clockOf_15 rfl ?_
    refine Y_bnd1 (fun r16 h16 => ?_)
    refine x_callVi C 16 [.int v1, .int v3_4] [.int v2_4] rfl tw_665 mv_X1_vectorOf (Nat.le_of_ble_eq_true rfl) (Nat.le_of_ble_eq_true rfl) (Nat.le_of_ble_eq_true rfl) (Nat.le_of_ble_eq_true rfl) (kc_28 V _) rfl dX1_clockOf_16 (c_X1_vectorOf V _ _ _ _ h16) ?_
    refine x_mmax C 19 tw_698 tw_470 tw_49 tw_471 (Nat.le_of_ble_eq_true rfl) (Nat.le_of_ble_eq_true rfl) dX1_clockOf_19 ?_
    refine x_istore_nt C 22 (fun v2_22 => [(2, .int v2_22), (0, .ref (zA (Zc V) 28)), (1, .int v1), (3, .int v3_4)]) dX1_clockOf_22 rfl (hN _ (Nat.le_of_ble_eq_true rfl)) (fun _ => rfl) (fun v2_22 => ?_)
    refine x_iinct C 23 3 (1 : Int32) (fun v3_23 => [(3, .int v3_23), (2, .int v2_22), (0, .ref (zA (Zc V) 28)), (1, .int v1)]) dX1_clockOf_23 rfl ki_1 (hN _ (Nat.le_of_ble_eq_true rfl)) (fun _ => rfl) (fun v3_23 => ?_)
    refine x_goto C 26 4 dX1_clockOf_26 (by decide) ?_
    refine Y_sub [2, 3, 1, 0] rfl ?_
    exact x_back (v2_22, v3_23) (hb4 (v2_22, v3_23))
def M_X1_isLater (σ : Wd) (v1 : Int32) (v2 : Int32) : Option Int32 :=
  chk (ib v1 60) (chk (ib v2 60) (if (gI σ 33 (ix v1)) = (gI σ 33 (ix v2)) then (chk (ib v1 60) (chk (ib v2 60) (if (gI σ 32 (ix v1)) ≤ (gI σ 32 (ix v2)) then (some (0 : Int32)) else (some (1 : Int32))))) else (chk (ib v1 60) (chk (ib v2 60) (if (gI σ 33 (ix v1)) ≤ (gI σ 33 (ix v2)) then (some (0 : Int32)) else (some (1 : Int32)))))))
set_option maxRecDepth 100000 in
set_option maxHeartbeats 4000000 in
theorem c_X1_isLater (V : Ct_V) (l : Launch) (σ : Wd) (v1 : Int32) (v2 : Int32) {r : Int32} (h : M_X1_isLater σ v1 v2 = some r) : Ct l (Zc V) yX1_isLater cX1_isLater 3 (some .boolean) 0 0 [.ref (zA (Zc V) 28), .int v1, .int v2] σ (some (.int r)) σ := by
  refine Ct_intro (own := RX1) zc_ok (by decide +kernel) rfl (Nat.le_of_ble_eq_true rfl) [(0, .ref (zA (Zc V) 28)), (1, .int v1), (2, .int v2)] rfl (fun K C R hKl hnL => ?_)
  have hN := nl_of hnL
  subst hKl
  refine Y_end h ?_
  unfold M_X1_isLater
  refine x_aload_n C 0 0 dX1_isLater_0 rfl ?_
  refine fgc_X1_25 C 1 dX1_isLater_1 ?_
  refine x_iload_n C 4 1 dX1_isLater_4 rfl ?_
  refine x_iald C 5 (Nat.le_of_ble_eq_true rfl) (kc_33 V _) dX1_isLater_5 (fun _ => ?_)
  refine x_aload_n C 6 0 dX1_isLater_6 rfl ?_
  refine fgc_X1_25 C 7 dX1_isLater_7 ?_
  refine x_iload_n C 10 2 dX1_isLater_10 rfl ?_
  refine x_iald C 11 (Nat.le_of_ble_eq_true rfl) (kc_33 V _) dX1_isLater_11 (fun _ => ?_)
  refine x_icmp_eq C 12 36 dX1_isLater_12 (by decide) (fun _ => ?_) (fun _ => ?_)
  · refine x_aload_n C 36 0 dX1_isLater_36 rfl ?_
    refine fgc_X1_22 C 37 dX1_isLater_37 ?_
    refine x_iload_n C 40 1 dX1_isLater_40 rfl ?_
    refine x_iald C 41 (Nat.le_of_ble_eq_true rfl) (kc_32 V _) dX1_isLater_41 (fun _ => ?_)
    refine x_aload_n C 42 0 dX1_isLater_42 rfl ?_
    refine fgc_X1_22 C 43 dX1_isLater_43 ?_
    refine x_iload_n C 46 2 dX1_isLater_46 rfl ?_
    refine x_iald C 47 (Nat.le_of_ble_eq_true rfl) (kc_32 V _) dX1_isLater_47 (fun _ => ?_)
    refine x_icmp_le C 48 55 dX1_isLater_48 (by decide) (fun _ => ?_) (fun _ => ?_)
    · refine x_iconst C 55 dX1_isLater_55 ki_0 ?_
      exact x_zret1 C R 56 (zb_nar (r := (0 : Int32)) (Or.inl rfl)) dX1_isLater_56
    · refine x_iconst C 51 dX1_isLater_51 ki_1 ?_
      refine x_goto C 52 56 dX1_isLater_52 (by decide) ?_
      exact x_zret1 C R 56 (zb_nar (r := (1 : Int32)) (Or.inr rfl)) dX1_isLater_56
  · refine x_aload_n C 15 0 dX1_isLater_15 rfl ?_
    refine fgc_X1_25 C 16 dX1_isLater_16 ?_
    refine x_iload_n C 19 1 dX1_isLater_19 rfl ?_
    refine x_iald C 20 (Nat.le_of_ble_eq_true rfl) (kc_33 V _) dX1_isLater_20 (fun _ => ?_)
    refine x_aload_n C 21 0 dX1_isLater_21 rfl ?_
    refine fgc_X1_25 C 22 dX1_isLater_22 ?_
    refine x_iload_n C 25 2 dX1_isLater_25 rfl ?_
    refine x_iald C 26 (Nat.le_of_ble_eq_true rfl) (kc_33 V _) dX1_isLater_26 (fun _ => ?_)
    refine x_icmp_le C 27 34 dX1_isLater_27 (by decide) (fun _ => ?_) (fun _ => ?_)
    · refine x_iconst C 34 dX1_isLater_34 ki_0 ?_
      exact x_zret1 C R 35 (zb_nar (r := (0 : Int32)) (Or.inl rfl)) dX1_isLater_35
    · refine x_iconst C 30 dX1_isLater_30 ki_1 ?_
      refine x_goto C 31 35 dX1_isLater_31 (by decide) ?_
      exact x_zret1 C R 35 (zb_nar (r := (1 : Int32)) (Or.inr rfl)) dX1_isLater_35
def M_X1_layLog_J130 (a4 : Nat) (n4 : Nat) (σ : Wd) (v3 : Int32) (v5 : Int64) (v7 : Int32) (v8 : Int32) (v9 : Int32) : Option ((Int32 × Int32 × Wd) ⊕ (Int32 × Wd)) :=
  chk (ib v9 n4) (lt (uI σ a4 (ix v9) v8) fun s_136 => lt (v7 + (1 : Int32)) fun v7_137 => lt (v8 + (1 : Int32)) fun v8_140 => some (.inl (v7_137, v8_140, s_136)))
def M_X1_layLog_L90 (a4 : Nat) (n4 : Nat) (v3 : Int32) (v5 : Int64) (v7 : Int32) (v8 : Int32) (v9 : Int32) (σ : Wd) : Option ((Int32 × Wd) ⊕ (Int32 × Wd)) :=
  if v9 ≤ v3 then (some (.inr (v9, σ))) else (chk (ib (v9 - (1 : Int32)) n4) (bnd1 (M_X1_isLater σ (gI σ a4 (ix (v9 - (1 : Int32)))) v8) fun r106 => if r106 = 0 then (some (.inr (v9, σ))) else (chk (ib (v9 - (1 : Int32)) n4) (chk (ib v9 n4) (lt (uI σ a4 (ix v9) (gI σ a4 (ix (v9 - (1 : Int32))))) fun s_123 => lt (v9 + (-1 : Int32)) fun v9_124 => some (.inl (v9_124, s_123)))))))
def M_X1_layLog_L58 (a4 : Nat) (n4 : Nat) (v3 : Int32) (v5 : Int64) (v7 : Int32) (v8 : Int32) (σ : Wd) : Option ((Int32 × Int32 × Wd) ⊕ (Int32 × Wd)) :=
  bnd1 (M_X1_writes σ) fun r61 => if r61 ≤ v8 then (some (.inr (v7, σ))) else (if (lg_cmp ((v5 >>> (v8.toInt64 &&& 63)) &&& (1 : Int64)) (0 : Int64)) = 0 then (lt (v8 + (1 : Int32)) fun v8_140 => some (.inl (v7, v8_140, σ))) else (if (60 : Int32) ≤ v7 then (lt (v8 + (1 : Int32)) fun v8_140 => some (.inl (v7, v8_140, σ))) else (bnd1 (iter (fun s : Int32 × Wd => M_X1_layLog_L90 a4 n4 v3 v5 v7 v8 s.1 s.2) FU (v7, σ)) (un2 fun x9_90 sx_90 => (M_X1_layLog_J130 a4 n4 sx_90 v3 v5 v7 v8 x9_90)))))
def M_X1_layLog_J55 (a4 : Nat) (n4 : Nat) (σ : Wd) (v3 : Int32) (v5 : Int64) (v7 : Int32) : Option (Int32 × Wd) :=
  bnd1 (iter (fun s : Int32 × Int32 × Wd => M_X1_layLog_L58 a4 n4 v3 v5 s.1 s.2.1 s.2.2) FU (v7, (0 : Int32), σ)) (un2 fun x7_58 sx_58 => (some (x7_58, sx_58)))
def M_X1_layLog_L6 (a4 : Nat) (n4 : Nat) (v3 : Int32) (v5 : Int64) (v7 : Int32) (σ : Wd) : Option ((Int64 × Int32 × Wd) ⊕ (Int64 × Int32 × Wd)) :=
  if v3 ≤ v7 then (some (.inr (v5, v7, σ))) else (if (60 : Int32) ≤ v7 then (some (.inr (v5, v7, σ))) else (chk (ib v7 60) (chk (ib v7 n4) (lt (uI σ a4 (ix v7) (gI σ 34 (ix v7))) fun s_30 => chk (ib v7 60) (lt (v5 &&& (((1 : Int64) <<< ((gI s_30 34 (ix v7)).toInt64 &&& 63)) ^^^ (-1 : Int64))) fun v5_47 => lt (v7 + (1 : Int32)) fun v7_49 => some (.inl (v5_47, v7_49, s_30)))))))
def M_X1_layLog (σ : Wd) (v1 : Int64) (v3 : Int32) (a4 : Nat) (n4 : Nat) : Option (Int32 × Wd) :=
  bnd1 (iter (fun s : Int64 × Int32 × Wd => M_X1_layLog_L6 a4 n4 v3 s.1 s.2.1 s.2.2) FU (v1, (0 : Int32), σ)) (un3 fun x5_6 x7_6 sx_6 => (M_X1_layLog_J55 a4 n4 sx_6 v3 x5_6 x7_6))
set_option maxRecDepth 100000 in
set_option maxHeartbeats 4000000 in
theorem c_X1_layLog (V : Ct_V) (l : Launch) (σ : Wd) (v1 : Int64) (v3 : Int32) (a4 : Nat) (n4 : Nat) (la4 : a4 < zN (Zc V)) (ka4 : ∀ σ : Wd, zY (Zc V) a4 σ = .inl (zC (Zc V) 1, n4, .inl (σ.1 a4))) {r : Int32} {σ2 : Wd} (h : M_X1_layLog σ v1 v3 a4 n4 = some (r, σ2)) : Ct l (Zc V) yX1_layLog cX1_layLog 10 (some .int) 1 22 [.ref (zA (Zc V) 28), .long v1, .int v3, .ref (zA (Zc V) a4)] σ (some (.int r)) σ2 := by
  refine Ct_intro (own := RX1) zc_ok (by decide +kernel) rfl (Nat.le_of_ble_eq_true rfl) [(0, .ref (zA (Zc V) 28)), (1, .long v1), (3, .int v3), (4, .ref (zA (Zc V) a4))] rfl (fun K C R hKl hnL => ?_)
  have hN := nl_of hnL
  subst hKl
  refine Y_end h ?_
  unfold M_X1_layLog
  refine x_lload_n C 0 1 dX1_layLog_0 rfl ?_
  refine x_lstore C 1 (L' := [(5, .long v1), (0, .ref (zA (Zc V) 28)), (1, .long v1), (3, .int v3), (4, .ref (zA (Zc V) a4))]) dX1_layLog_1 (hN _ (Nat.le_of_ble_eq_true rfl)) rfl ?_
  refine x_iconst C 3 dX1_layLog_3 ki_0 ?_
  refine x_istore C 4 (L' := [(7, .int (0 : Int32)), (5, .long v1), (0, .ref (zA (Zc V) 28)), (1, .long v1), (3, .int v3), (4, .ref (zA (Zc V) a4))]) dX1_layLog_4 (hN _ (Nat.le_of_ble_eq_true rfl)) rfl ?_
  have hJ55 : ∀ (σ_55 : Wd) (v3_55 : Int32) (v5_55 : Int64) (v7_55 : Int32), Y K (Zc V) (M_X1_layLog_J55 a4 n4 σ_55 v3_55 v5_55 v7_55) (fun q => q = (r, σ2)) σ_55 55 [(0, .ref (zA (Zc V) 28)), (3, .int v3_55), (4, .ref (zA (Zc V) a4)), (5, .long v5_55), (7, .int v7_55)] [] := by
    intro σ_55 v3_55 v5_55 v7_55
    unfold M_X1_layLog_J55
    refine x_iconst C 55 dX1_layLog_55 ki_0 ?_
    refine x_istore C 56 (L' := [(8, .int (0 : Int32)), (0, .ref (zA (Zc V) 28)), (3, .int v3_55), (4, .ref (zA (Zc V) a4)), (5, .long v5_55), (7, .int v7_55)]) dX1_layLog_56 (hN _ (Nat.le_of_ble_eq_true rfl)) rfl ?_
    refine Y_sub [1, 2, 3, 4, 5, 0] rfl ?_
    refine x_loop 58 (fun s : Int32 × Int32 × Wd => s.2.2) (fun s : Int32 × Int32 × Wd => [(0, .ref (zA (Zc V) 28)), (3, .int v3_55), (4, .ref (zA (Zc V) a4)), (5, .long v5_55), (7, .int s.1), (8, .int s.2.1)]) (fun E58 hb58 hx58 s => ?_) FU (v7_55, (0 : Int32), σ_55)
    obtain ⟨v7_58, v8_58, s_58⟩ := s
    show Y K (Zc V) (M_X1_layLog_L58 a4 n4 v3_55 v5_55 v7_58 v8_58 s_58) E58 s_58 58 [(0, .ref (zA (Zc V) 28)), (3, .int v3_55), (4, .ref (zA (Zc V) a4)), (5, .long v5_55), (7, .int v7_58), (8, .int v8_58)] []
    unfold M_X1_layLog_L58
    refine x_iload C 58 5 dX1_layLog_58 rfl ?_
    refine x_aload_n C 60 0 dX1_layLog_60 rfl ?_
    refine Y_bnd1 (fun r61 h61 => ?_)
    refine x_callVi C 61 [] [.int v8_58] rfl tw_669 mv_X1_writes (Nat.le_of_ble_eq_true rfl) (Nat.le_of_ble_eq_true rfl) (Nat.le_of_ble_eq_true rfl) (Nat.le_of_ble_eq_true rfl) (kc_28 V _) rfl dX1_layLog_61 (c_X1_writes V _ _  h61) ?_
    refine x_icmp_ge C 64 146 dX1_layLog_64 (by decide) (fun _ => ?_) (fun _ => ?_)
    · refine x_ex2 hx58 v7_58 s_58 ?_
      refine x_iload C 146 4 dX1_layLog_146 rfl ?_
      exact x_iret2 C R 148 dX1_layLog_148
    · refine x_lload C 67 3 dX1_layLog_67 rfl ?_
      refine x_iload C 69 5 dX1_layLog_69 rfl ?_
      refine x_lshr C 71 dX1_layLog_71 ?_
      refine x_lconst C 72 dX1_layLog_72 kl_1 ?_
      refine x_land C 73 dX1_layLog_73 ?_
      refine x_lconst C 74 dX1_layLog_74 kl_0 ?_
      refine x_lcmp C 75 dX1_layLog_75 ?_
      refine x_if_eq C 76 140 dX1_layLog_76 (by decide) (fun _ => ?_) (fun _ => ?_)
      · refine x_iinct C 140 5 (1 : Int32) (fun v8_140 => [(8, .int v8_140), (0, .ref (zA (Zc V) 28)), (3, .int v3_55), (4, .ref (zA (Zc V) a4)), (5, .long v5_55), (7, .int v7_58)]) dX1_layLog_140 rfl ki_1 (hN _ (Nat.le_of_ble_eq_true rfl)) (fun _ => rfl) (fun v8_140 => ?_)
        refine x_goto C 143 58 dX1_layLog_143 (by decide) ?_
        refine Y_sub [1, 2, 3, 4, 5, 0] rfl ?_
        exact x_back (v7_58, v8_140, s_58) (hb58 (v7_58, v8_140, s_58))
      · refine x_iload C 79 4 dX1_layLog_79 rfl ?_
        refine x_bipush C 81 dX1_layLog_81 kb_60 ?_
        refine x_icmp_ge C 83 140 dX1_layLog_83 (by decide) (fun _ => ?_) (fun _ => ?_)
        · refine x_iinct C 140 5 (1 : Int32) (fun v8_140 => [(8, .int v8_140), (0, .ref (zA (Zc V) 28)), (3, .int v3_55), (4, .ref (zA (Zc V) a4)), (5, .long v5_55), (7, .int v7_58)]) dX1_layLog_140 rfl ki_1 (hN _ (Nat.le_of_ble_eq_true rfl)) (fun _ => rfl) (fun v8_140 => ?_)
          refine x_goto C 143 58 dX1_layLog_143 (by decide) ?_
          refine Y_sub [1, 2, 3, 4, 5, 0] rfl ?_
          exact x_back (v7_58, v8_140, s_58) (hb58 (v7_58, v8_140, s_58))
        · refine x_iload C 86 4 dX1_layLog_86 rfl ?_
          refine x_istore C 88 (L' := [(9, .int v7_58), (0, .ref (zA (Zc V) 28)), (3, .int v3_55), (4, .ref (zA (Zc V) a4)), (5, .long v5_55), (7, .int v7_58), (8, .int v8_58)]) dX1_layLog_88 (hN _ (Nat.le_of_ble_eq_true rfl)) rfl ?_
          have hJ130 : ∀ (σ_130 : Wd) (v7_130 : Int32) (v8_130 : Int32) (v9_130 : Int32), Y K (Zc V) (M_X1_layLog_J130 a4 n4 σ_130 v3_55 v5_55 v7_130 v8_130 v9_130) E58 σ_130 130 [(0, .ref (zA (Zc V) 28)), (3, .int v3_55), (4, .ref (zA (Zc V) a4)), (5, .long v5_55), (7, .int v7_130), (8, .int v8_130), (9, .int v9_130)] [] := by
            intro σ_130 v7_130 v8_130 v9_130
            unfold M_X1_layLog_J130
            refine x_aload C 130 2 dX1_layLog_130 rfl ?_
            refine x_iload C 132 6 dX1_layLog_132 rfl ?_
            refine x_iload C 134 5 dX1_layLog_134 rfl ?_
            refine x_iast C 136 (la4) (ka4) dX1_layLog_136 (fun _ s_136 => ?_)
            refine x_iinct C 137 4 (1 : Int32) (fun v7_137 => [(7, .int v7_137), (0, .ref (zA (Zc V) 28)), (3, .int v3_55), (4, .ref (zA (Zc V) a4)), (5, .long v5_55), (8, .int v8_130), (9, .int v9_130)]) dX1_layLog_137 rfl ki_1 (hN _ (Nat.le_of_ble_eq_true rfl)) (fun _ => rfl) (fun v7_137 => ?_)
            refine x_iinct C 140 5 (1 : Int32) (fun v8_140 => [(8, .int v8_140), (7, .int v7_137), (0, .ref (zA (Zc V) 28)), (3, .int v3_55), (4, .ref (zA (Zc V) a4)), (5, .long v5_55), (9, .int v9_130)]) dX1_layLog_140 rfl ki_1 (hN _ (Nat.le_of_ble_eq_true rfl)) (fun _ => rfl) (fun v8_140 => ?_)
            refine x_goto C 143 58 dX1_layLog_143 (by decide) ?_
            refine Y_sub [2, 3, 4, 5, 1, 0] rfl ?_
            exact x_back (v7_137, v8_140, s_136) (hb58 (v7_137, v8_140, s_136))
          refine Y_sub [1, 2, 3, 4, 5, 6, 0] rfl ?_
          refine x_loop 90 (fun s : Int32 × Wd => s.2) (fun s : Int32 × Wd => [(0, .ref (zA (Zc V) 28)), (3, .int v3_55), (4, .ref (zA (Zc V) a4)), (5, .long v5_55), (7, .int v7_58), (8, .int v8_58), (9, .int s.1)]) (fun E90 hb90 hx90 s => ?_) FU (v7_58, s_58)
          obtain ⟨v9_90, s_90⟩ := s
          show Y K (Zc V) (M_X1_layLog_L90 a4 n4 v3_55 v5_55 v7_58 v8_58 v9_90 s_90) E90 s_90 90 [(0, .ref (zA (Zc V) 28)), (3, .int v3_55), (4, .ref (zA (Zc V) a4)), (5, .long v5_55), (7, .int v7_58), (8, .int v8_58), (9, .int v9_90)] []
          unfold M_X1_layLog_L90
          refine x_iload C 90 6 dX1_layLog_90 rfl ?_
          refine x_iload_n C 92 1 dX1_layLog_92 rfl ?_
          refine x_icmp_le C 93 130 dX1_layLog_93 (by decide) (fun _ => ?_) (fun _ => ?_)
          · refine x_ex2 hx90 v9_90 s_90 ?_
            exact hJ130 _ _ _ _
          · refine x_aload_n C 96 0 dX1_layLog_96 rfl ?_
            refine x_aload C 97 2 dX1_layLog_97 rfl ?_
            refine x_iload C 99 6 dX1_layLog_99 rfl ?_
            refine x_iconst C 101 dX1_layLog_101 ki_1 ?_
            refine x_isub C 102 dX1_layLog_102 ?_
            refine x_iald C 103 (la4) (ka4 _) dX1_layLog_103 (fun _ => ?_)
            refine x_iload C 104 5 dX1_layLog_104 rfl ?_
            refine Y_bnd1 (fun r106 h106 => ?_)
            refine x_callVi C 106 [.int (gI s_90 a4 (ix (v9_90 - (1 : Int32)))), .int v8_58] [] rfl tw_712 mv_X1_isLater (Nat.le_of_ble_eq_true rfl) (Nat.le_of_ble_eq_true rfl) (Nat.le_of_ble_eq_true rfl) (Nat.le_of_ble_eq_true rfl) (kc_28 V _) rfl dX1_layLog_106 (c_X1_isLater V _ _ _ _ h106) ?_
            refine x_if_eq C 109 130 dX1_layLog_109 (by decide) (fun _ => ?_) (fun _ => ?_)
            · refine x_ex2 hx90 v9_90 s_90 ?_
              exact hJ130 _ _ _ _
            · refine x_aload C 112 2 dX1_layLog_112 rfl ?_
              refine x_iload C 114 6 dX1_layLog_114 rfl ?_
              refine x_aload C 116 2 dX1_layLog_116 rfl ?_
              refine x_iload C 118 6 dX1_layLog_118 rfl ?_
              refine x_iconst C 120 dX1_layLog_120 ki_1 ?_
              refine x_isub C 121 dX1_layLog_121 ?_
              refine x_iald C 122 (la4) (ka4 _) dX1_layLog_122 (fun _ => ?_)
              refine x_iast C 123 (la4) (ka4) dX1_layLog_123 (fun _ s_123 => ?_)
              refine x_iinct C 124 6 (-1 : Int32) (fun v9_124 => [(9, .int v9_124), (0, .ref (zA (Zc V) 28)), (3, .int v3_55), (4, .ref (zA (Zc V) a4)), (5, .long v5_55), (7, .int v7_58), (8, .int v8_58)]) dX1_layLog_124 rfl ki_m1 (hN _ (Nat.le_of_ble_eq_true rfl)) (fun _ => rfl) (fun v9_124 => ?_)
              refine x_goto C 127 90 dX1_layLog_127 (by decide) ?_
              refine Y_sub [1, 2, 3, 4, 5, 6, 0] rfl ?_
              exact x_back (v9_124, s_123) (hb90 (v9_124, s_123))
  refine Y_sub [2, 4, 5, 1, 0] rfl ?_
  refine x_loop 6 (fun s : Int64 × Int32 × Wd => s.2.2) (fun s : Int64 × Int32 × Wd => [(0, .ref (zA (Zc V) 28)), (3, .int v3), (4, .ref (zA (Zc V) a4)), (5, .long s.1), (7, .int s.2.1)]) (fun E6 hb6 hx6 s => ?_) FU (v1, (0 : Int32), σ)
  obtain ⟨v5_6, v7_6, s_6⟩ := s
  show Y K (Zc V) (M_X1_layLog_L6 a4 n4 v3 v5_6 v7_6 s_6) E6 s_6 6 [(0, .ref (zA (Zc V) 28)), (3, .int v3), (4, .ref (zA (Zc V) a4)), (5, .long v5_6), (7, .int v7_6)] []
  unfold M_X1_layLog_L6
  refine x_iload C 6 4 dX1_layLog_6 rfl ?_
  refine x_iload_n C 8 1 dX1_layLog_8 rfl ?_
  refine x_icmp_ge C 9 55 dX1_layLog_9 (by decide) (fun _ => ?_) (fun _ => ?_)
  · refine x_ex3 hx6 v5_6 v7_6 s_6 ?_
    exact hJ55 _ _ _ _
  · refine x_iload C 12 4 dX1_layLog_12 rfl ?_
    refine x_bipush C 14 dX1_layLog_14 kb_60 ?_
    refine x_icmp_ge C 16 55 dX1_layLog_16 (by decide) (fun _ => ?_) (fun _ => ?_)
    · refine x_ex3 hx6 v5_6 v7_6 s_6 ?_
      exact hJ55 _ _ _ _
    · refine x_aload C 19 2 dX1_layLog_19 rfl ?_
      refine x_iload C 21 4 dX1_layLog_21 rfl ?_
      refine x_aload_n C 23 0 dX1_layLog_23 rfl ?_
      refine fgc_X1_28 C 24 dX1_layLog_24 ?_
      refine x_iload C 27 4 dX1_layLog_27 rfl ?_
      refine x_iald C 29 (Nat.le_of_ble_eq_true rfl) (kc_34 V _) dX1_layLog_29 (fun _ => ?_)
      refine x_iast C 30 (la4) (ka4) dX1_layLog_30 (fun _ s_30 => ?_)
      refine x_lload C 31 3 dX1_layLog_31 rfl ?_
      refine x_lconst C 33 dX1_layLog_33 kl_1 ?_
      refine x_aload_n C 34 0 dX1_layLog_34 rfl ?_
      refine fgc_X1_28 C 35 dX1_layLog_35 ?_
      refine x_iload C 38 4 dX1_layLog_38 rfl ?_
      refine x_iald C 40 (Nat.le_of_ble_eq_true rfl) (kc_34 V _) dX1_layLog_40 (fun _ => ?_)
      refine x_lshl C 41 dX1_layLog_41 ?_
      refine x_ldc2 C 42 (hw := tw_711) dX1_layLog_42 ?_
      refine x_lxor C 45 dX1_layLog_45 ?_
      refine x_land C 46 dX1_layLog_46 ?_
      refine x_lstoret C 47 (fun v5_47 => [(5, .long v5_47), (0, .ref (zA (Zc V) 28)), (3, .int v3), (4, .ref (zA (Zc V) a4)), (7, .int v7_6)]) dX1_layLog_47 (hN _ (Nat.le_of_ble_eq_true rfl)) (fun _ => rfl) (fun v5_47 => ?_)
      refine x_iinct C 49 4 (1 : Int32) (fun v7_49 => [(7, .int v7_49), (5, .long v5_47), (0, .ref (zA (Zc V) 28)), (3, .int v3), (4, .ref (zA (Zc V) a4))]) dX1_layLog_49 rfl ki_1 (hN _ (Nat.le_of_ble_eq_true rfl)) (fun _ => rfl) (fun v7_49 => ?_)
      refine x_goto C 52 6 dX1_layLog_52 (by decide) ?_
      refine Y_sub [2, 3, 4, 1, 0] rfl ?_
      exact x_back (v5_47, v7_49, s_30) (hb6 (v5_47, v7_49, s_30))
def M_X1_alikeFromStart_L3 (a0 : Nat) (n0 : Nat) (a2 : Nat) (n2 : Nat) (σ : Wd) (v1 : Int32) (v3 : Int32) (v4 : Int32) : Option ((Int32) ⊕ (Int32)) :=
  if v1 ≤ v4 then (some (.inr v4)) else (if v3 ≤ v4 then (some (.inr v4)) else (chk (ib v4 n0) (chk (ib v4 n2) (if (gI σ a0 (ix v4)) ≠ (gI σ a2 (ix v4)) then (some (.inr v4)) else (lt (v4 + (1 : Int32)) fun v4_26 => some (.inl v4_26))))))
def M_X1_alikeFromStart (σ : Wd) (a0 : Nat) (n0 : Nat) (v1 : Int32) (a2 : Nat) (n2 : Nat) (v3 : Int32) : Option Int32 :=
  bnd1 (iter (fun s : Int32 => M_X1_alikeFromStart_L3 a0 n0 a2 n2 σ v1 v3 s) FU (0 : Int32)) (un1 fun x4_3 => (some x4_3))
set_option maxRecDepth 100000 in
set_option maxHeartbeats 4000000 in
theorem c_X1_alikeFromStart (V : Ct_V) (l : Launch) (σ : Wd) (a0 : Nat) (n0 : Nat) (la0 : a0 < zN (Zc V)) (ka0 : ∀ σ : Wd, zY (Zc V) a0 σ = .inl (zC (Zc V) 1, n0, .inl (σ.1 a0))) (v1 : Int32) (a2 : Nat) (n2 : Nat) (la2 : a2 < zN (Zc V)) (ka2 : ∀ σ : Wd, zY (Zc V) a2 σ = .inl (zC (Zc V) 1, n2, .inl (σ.1 a2))) (v3 : Int32) {r : Int32} (h : M_X1_alikeFromStart σ a0 n0 v1 a2 n2 v3 = some r) : Ct l (Zc V) yX1_alikeFromStart cX1_alikeFromStart 5 (some .int) 0 0 [.ref (zA (Zc V) a0), .int v1, .ref (zA (Zc V) a2), .int v3] σ (some (.int r)) σ := by
  refine Ct_intro (own := RX1) zc_ok (by decide +kernel) rfl (Nat.le_of_ble_eq_true rfl) [(0, .ref (zA (Zc V) a0)), (1, .int v1), (2, .ref (zA (Zc V) a2)), (3, .int v3)] rfl (fun K C R hKl hnL => ?_)
  have hN := nl_of hnL
  subst hKl
  refine Y_end h ?_
  unfold M_X1_alikeFromStart
  refine x_iconst C 0 dX1_alikeFromStart_0 ki_0 ?_
  refine x_istore C 1 (L' := [(4, .int (0 : Int32)), (0, .ref (zA (Zc V) a0)), (1, .int v1), (2, .ref (zA (Zc V) a2)), (3, .int v3)]) dX1_alikeFromStart_1 (hN _ (Nat.le_of_ble_eq_true rfl)) rfl ?_
  refine Y_sub [1, 2, 3, 4, 0] rfl ?_
  refine x_loop 3 (fun s : Int32 => σ) (fun s : Int32 => [(0, .ref (zA (Zc V) a0)), (1, .int v1), (2, .ref (zA (Zc V) a2)), (3, .int v3), (4, .int s)]) (fun E3 hb3 hx3 s => ?_) FU (0 : Int32)
  obtain ⟨v4_3, rfl⟩ : ∃ z, z = s := ⟨s, rfl⟩
  show Y K (Zc V) (M_X1_alikeFromStart_L3 a0 n0 a2 n2 σ v1 v3 v4_3) E3 σ 3 [(0, .ref (zA (Zc V) a0)), (1, .int v1), (2, .ref (zA (Zc V) a2)), (3, .int v3), (4, .int v4_3)] []
  unfold M_X1_alikeFromStart_L3
  refine x_iload C 3 4 dX1_alikeFromStart_3 rfl ?_
  refine x_iload_n C 5 1 dX1_alikeFromStart_5 rfl ?_
  refine x_icmp_ge C 6 32 dX1_alikeFromStart_6 (by decide) (fun _ => ?_) (fun _ => ?_)
  · refine x_ex1 hx3 v4_3 ?_
    refine x_iload C 32 4 dX1_alikeFromStart_32 rfl ?_
    exact x_iret1 C R 34 dX1_alikeFromStart_34
  · refine x_iload C 9 4 dX1_alikeFromStart_9 rfl ?_
    refine x_iload_n C 11 3 dX1_alikeFromStart_11 rfl ?_
    refine x_icmp_ge C 12 32 dX1_alikeFromStart_12 (by decide) (fun _ => ?_) (fun _ => ?_)
    · refine x_ex1 hx3 v4_3 ?_
      refine x_iload C 32 4 dX1_alikeFromStart_32 rfl ?_
      exact x_iret1 C R 34 dX1_alikeFromStart_34
    · refine x_aload_n C 15 0 dX1_alikeFromStart_15 rfl ?_
      refine x_iload C 16 4 dX1_alikeFromStart_16 rfl ?_
      refine x_iald C 18 (la0) (ka0 _) dX1_alikeFromStart_18 (fun _ => ?_)
      refine x_aload_n C 19 2 dX1_alikeFromStart_19 rfl ?_
      refine x_iload C 20 4 dX1_alikeFromStart_20 rfl ?_
      refine x_iald C 22 (la2) (ka2 _) dX1_alikeFromStart_22 (fun _ => ?_)
      refine x_icmp_ne C 23 32 dX1_alikeFromStart_23 (by decide) (fun _ => ?_) (fun _ => ?_)
      · refine x_ex1 hx3 v4_3 ?_
        refine x_iload C 32 4 dX1_alikeFromStart_32 rfl ?_
        exact x_iret1 C R 34 dX1_alikeFromStart_34
      · refine x_iinct C 26 4 (1 : Int32) (fun v4_26 => [(4, .int v4_26), (0, .ref (zA (Zc V) a0)), (1, .int v1), (2, .ref (zA (Zc V) a2)), (3, .int v3)]) dX1_alikeFromStart_26 rfl ki_1 (hN _ (Nat.le_of_ble_eq_true rfl)) (fun _ => rfl) (fun v4_26 => ?_)
        refine x_goto C 29 3 dX1_alikeFromStart_29 (by decide) ?_
        refine Y_sub [1, 2, 3, 4, 0] rfl ?_
        exact x_back v4_26 (hb3 v4_26)
def M_X1_giveOrder_L5 (a1 : Nat) (n1 : Nat) (v2 : Int32) (v3 : Int32) (σ : Wd) : Option ((Int32 × Wd) ⊕ (Wd)) :=
  if v2 ≤ v3 then (some (.inr σ)) else (chk (ib v3 n1) (chk (ib v3 60) (lt (uI σ 34 (ix v3) (gI σ a1 (ix v3))) fun s_18 => lt (v3 + (1 : Int32)) fun v3_19 => some (.inl (v3_19, s_18)))))
def M_X1_giveOrder (σ : Wd) (a1 : Nat) (n1 : Nat) (v2 : Int32) : Option Wd :=
  bnd1 (M_X1_ordered σ) fun r1 => bnd1 (iter (fun s : Int32 × Wd => M_X1_giveOrder_L5 a1 n1 v2 s.1 s.2) FU (r1, σ)) (un1 fun sx_5 => (chk (ib (3 : Int32) 96) (lt (uL sx_5 29 (ix (3 : Int32)) v2.toInt64) fun s_32 => bnd1 (M_X1_primary s_32) fun r40 => chk (ib ((11 : Int32) + r40) 96) (lt (uL s_32 29 (ix ((11 : Int32) + r40)) v2.toInt64) fun s_46 => some s_46))))
set_option maxRecDepth 100000 in
set_option maxHeartbeats 4000000 in
theorem c_X1_giveOrder (V : Ct_V) (l : Launch) (σ : Wd) (a1 : Nat) (n1 : Nat) (la1 : a1 < zN (Zc V)) (ka1 : ∀ σ : Wd, zY (Zc V) a1 σ = .inl (zC (Zc V) 1, n1, .inl (σ.1 a1))) (v2 : Int32) {σ2 : Wd} (h : M_X1_giveOrder σ a1 n1 v2 = some σ2) : Ct l (Zc V) yX1_giveOrder cX1_giveOrder 4 none 1 20 [.ref (zA (Zc V) 28), .ref (zA (Zc V) a1), .int v2] σ none σ2 := by
  refine Ct_intro (own := RX1) zc_ok (by decide +kernel) rfl (Nat.le_of_ble_eq_true rfl) [(0, .ref (zA (Zc V) 28)), (1, .ref (zA (Zc V) a1)), (2, .int v2)] rfl (fun K C R hKl hnL => ?_)
  have hN := nl_of hnL
  subst hKl
  refine Y_end h ?_
  unfold M_X1_giveOrder
  refine x_aload_n C 0 0 dX1_giveOrder_0 rfl ?_
  refine Y_bnd1 (fun r1 h1 => ?_)
  refine x_callVi C 1 [] [] rfl tw_720 mv_X1_ordered (Nat.le_of_ble_eq_true rfl) (Nat.le_of_ble_eq_true rfl) (Nat.le_of_ble_eq_true rfl) (Nat.le_of_ble_eq_true rfl) (kc_28 V _) rfl dX1_giveOrder_1 (c_X1_ordered V _ _  h1) ?_
  refine x_istore_n C 4 (L' := [(3, .int r1), (0, .ref (zA (Zc V) 28)), (1, .ref (zA (Zc V) a1)), (2, .int v2)]) dX1_giveOrder_4 rfl (hN _ (Nat.le_of_ble_eq_true rfl)) rfl ?_
  refine Y_sub [1, 2, 3, 0] rfl ?_
  refine x_loop 5 (fun s : Int32 × Wd => s.2) (fun s : Int32 × Wd => [(0, .ref (zA (Zc V) 28)), (1, .ref (zA (Zc V) a1)), (2, .int v2), (3, .int s.1)]) (fun E5 hb5 hx5 s => ?_) FU (r1, σ)
  obtain ⟨v3_5, s_5⟩ := s
  show Y K (Zc V) (M_X1_giveOrder_L5 a1 n1 v2 v3_5 s_5) E5 s_5 5 [(0, .ref (zA (Zc V) 28)), (1, .ref (zA (Zc V) a1)), (2, .int v2), (3, .int v3_5)] []
  unfold M_X1_giveOrder_L5
  refine x_iload_n C 5 3 dX1_giveOrder_5 rfl ?_
  refine x_iload_n C 6 2 dX1_giveOrder_6 rfl ?_
  refine x_icmp_ge C 7 25 dX1_giveOrder_7 (by decide) (fun _ => ?_) (fun _ => ?_)
  · refine x_ex1 hx5 s_5 ?_
    refine x_aload_n C 25 0 dX1_giveOrder_25 rfl ?_
    refine fgc_X1_11 C 26 dX1_giveOrder_26 ?_
    refine x_iconst C 29 dX1_giveOrder_29 ki_3 ?_
    refine x_iload_n C 30 2 dX1_giveOrder_30 rfl ?_
    refine x_i2l C 31 dX1_giveOrder_31 ?_
    refine x_last C 32 (Nat.le_of_ble_eq_true rfl) (kc_29 V) dX1_giveOrder_32 (fun _ s_32 => ?_)
    refine x_aload_n C 33 0 dX1_giveOrder_33 rfl ?_
    refine fgc_X1_11 C 34 dX1_giveOrder_34 ?_
    refine x_bipush C 37 dX1_giveOrder_37 kb_11 ?_
    refine x_aload_n C 39 0 dX1_giveOrder_39 rfl ?_
    refine Y_bnd1 (fun r40 h40 => ?_)
    refine x_callVi C 40 [] [.int (11 : Int32), .ref (zA (Zc V) 29)] rfl tw_699 mv_X1_primary (Nat.le_of_ble_eq_true rfl) (Nat.le_of_ble_eq_true rfl) (Nat.le_of_ble_eq_true rfl) (Nat.le_of_ble_eq_true rfl) (kc_28 V _) rfl dX1_giveOrder_40 (c_X1_primary V _ _  h40) ?_
    refine x_iadd C 43 dX1_giveOrder_43 ?_
    refine x_iload_n C 44 2 dX1_giveOrder_44 rfl ?_
    refine x_i2l C 45 dX1_giveOrder_45 ?_
    refine x_last C 46 (Nat.le_of_ble_eq_true rfl) (kc_29 V) dX1_giveOrder_46 (fun _ s_46 => ?_)
    exact x_vret C R 47 dX1_giveOrder_47
  · refine x_aload_n C 10 0 dX1_giveOrder_10 rfl ?_
    refine fgc_X1_28 C 11 dX1_giveOrder_11 ?_
    refine x_iload_n C 14 3 dX1_giveOrder_14 rfl ?_
    refine x_aload_n C 15 1 dX1_giveOrder_15 rfl ?_
    refine x_iload_n C 16 3 dX1_giveOrder_16 rfl ?_
    refine x_iald C 17 (la1) (ka1 _) dX1_giveOrder_17 (fun _ => ?_)
    refine x_iast C 18 (Nat.le_of_ble_eq_true rfl) (kc_34 V) dX1_giveOrder_18 (fun _ s_18 => ?_)
    refine x_iinct C 19 3 (1 : Int32) (fun v3_19 => [(3, .int v3_19), (0, .ref (zA (Zc V) 28)), (1, .ref (zA (Zc V) a1)), (2, .int v2)]) dX1_giveOrder_19 rfl ki_1 (hN _ (Nat.le_of_ble_eq_true rfl)) (fun _ => rfl) (fun v3_19 => ?_)
    refine x_goto C 22 5 dX1_giveOrder_22 (by decide) ?_
    refine Y_sub [1, 2, 3, 0] rfl ?_
    exact x_back (v3_19, s_18) (hb5 (v3_19, s_18))
def M_X1_addWrite_J97 (σ : Wd) (v2 : Int32) (v5 : Int32) : Option (Int32 × Wd) :=
  bnd1 (M_X1_primary σ) fun r99 => if v2 ≠ r99 then (some (v5, σ)) else (bnd1 (M_X1_setOf σ v2) fun r113 => bnd1 (M_X1_knownOf σ v2) fun r118 => bnd2 (M_X1_layLog σ r113 r118 36 60) fun r125 s_125 => bnd1 (M_X1_giveOrder s_125 36 60 r125) fun s_128 => some (v5, s_128))
def M_X1_addWrite (σ : Wd) (v1 : Int32) (v2 : Int32) (v3 : Int32) (v4 : Int32) : Option (Int32 × Wd) :=
  bnd1 (M_X1_writes σ) fun r1 => chk (ib r1 60) (lt (uI σ 30 (ix r1) v3) fun s_13 => chk (ib r1 60) (lt (uI s_13 31 (ix r1) v4) fun s_22 => chk (ib r1 60) (lt (uI s_22 32 (ix r1) v2) fun s_30 => bnd1 (M_X1_clockOf s_30 v2) fun r39 => chk (ib r1 60) (lt (uI s_30 33 (ix r1) (r39 + (1 : Int32))) fun s_44 => chk (ib (2 : Int32) 96) (chk (ib (2 : Int32) 96) (lt (uL s_44 29 (ix (2 : Int32)) ((gL s_44 29 (ix (2 : Int32))) + (1 : Int64))) fun s_54 => chk (ib ((6 : Int32) + v2) 96) (chk (ib ((6 : Int32) + v2) 96) (lt (uL s_54 29 (ix ((6 : Int32) + v2)) ((gL s_54 29 (ix ((6 : Int32) + v2))) ||| ((1 : Int64) <<< (r1.toInt64 &&& 63)))) fun s_70 => if v1 = (-1 : Int32) then (M_X1_addWrite_J97 s_70 v2 r1) else (chk (ib r1 60) (chk (ib (((76 : Int32) + (v1 * (5 : Int32))) + v2) 96) (lt (uL s_70 29 (ix (((76 : Int32) + (v1 * (5 : Int32))) + v2)) ((gI s_70 33 (ix r1)).toInt64)) fun s_96 => M_X1_addWrite_J97 s_96 v2 r1)))))))))))
set_option maxRecDepth 100000 in
set_option maxHeartbeats 4000000 in
theorem c_X1_addWrite (V : Ct_V) (l : Launch) (σ : Wd) (v1 : Int32) (v2 : Int32) (v3 : Int32) (v4 : Int32) {r : Int32} {σ2 : Wd} (h : M_X1_addWrite σ v1 v2 v3 v4 = some (r, σ2)) : Ct l (Zc V) yX1_addWrite cX1_addWrite 6 (some .int) 4 89 [.ref (zA (Zc V) 28), .int v1, .int v2, .int v3, .int v4] σ (some (.int r)) σ2 := by
  refine Ct_intro (own := RX1) zc_ok (by decide +kernel) rfl (Nat.le_of_ble_eq_true rfl) [(0, .ref (zA (Zc V) 28)), (1, .int v1), (2, .int v2), (3, .int v3), (4, .int v4)] rfl (fun K C R hKl hnL => ?_)
  have hN := nl_of hnL
  subst hKl
  refine Y_end h ?_
  unfold M_X1_addWrite
  refine x_aload_n C 0 0 dX1_addWrite_0 rfl ?_
  refine Y_bnd1 (fun r1 h1 => ?_)
  refine x_callVi C 1 [] [] rfl tw_669 mv_X1_writes (Nat.le_of_ble_eq_true rfl) (Nat.le_of_ble_eq_true rfl) (Nat.le_of_ble_eq_true rfl) (Nat.le_of_ble_eq_true rfl) (kc_28 V _) rfl dX1_addWrite_1 (c_X1_writes V _ _  h1) ?_
  refine x_istore C 4 (L' := [(5, .int r1), (0, .ref (zA (Zc V) 28)), (1, .int v1), (2, .int v2), (3, .int v3), (4, .int v4)]) dX1_addWrite_4 (hN _ (Nat.le_of_ble_eq_true rfl)) rfl ?_
  refine x_aload_n C 6 1 dX1_addWrite_6 rfl ?_
  refine fgc_X1_15 C 7 dX1_addWrite_7 ?_
  refine x_iload C 10 0 dX1_addWrite_10 rfl ?_
  refine x_iload_n C 12 4 dX1_addWrite_12 rfl ?_
  refine x_iast C 13 (Nat.le_of_ble_eq_true rfl) (kc_30 V) dX1_addWrite_13 (fun _ s_13 => ?_)
  refine x_aload_n C 14 1 dX1_addWrite_14 rfl ?_
  refine fgc_X1_19 C 15 dX1_addWrite_15 ?_
  refine x_iload C 18 0 dX1_addWrite_18 rfl ?_
  refine x_iload C 20 5 dX1_addWrite_20 rfl ?_
  refine x_iast C 22 (Nat.le_of_ble_eq_true rfl) (kc_31 V) dX1_addWrite_22 (fun _ s_22 => ?_)
  refine x_aload_n C 23 1 dX1_addWrite_23 rfl ?_
  refine fgc_X1_22 C 24 dX1_addWrite_24 ?_
  refine x_iload C 27 0 dX1_addWrite_27 rfl ?_
  refine x_iload_n C 29 3 dX1_addWrite_29 rfl ?_
  refine x_iast C 30 (Nat.le_of_ble_eq_true rfl) (kc_32 V) dX1_addWrite_30 (fun _ s_30 => ?_)
  refine x_aload_n C 31 1 dX1_addWrite_31 rfl ?_
  refine fgc_X1_25 C 32 dX1_addWrite_32 ?_
  refine x_iload C 35 0 dX1_addWrite_35 rfl ?_
  refine x_aload_n C 37 1 dX1_addWrite_37 rfl ?_
  refine x_iload_n C 38 3 dX1_addWrite_38 rfl ?_
  refine Y_bnd1 (fun r39 h39 => ?_)
  refine x_callVi C 39 [.int v2] [.int r1, .ref (zA (Zc V) 33)] rfl tw_694 mv_X1_clockOf (Nat.le_of_ble_eq_true rfl) (Nat.le_of_ble_eq_true rfl) (Nat.le_of_ble_eq_true rfl) (Nat.le_of_ble_eq_true rfl) (kc_28 V _) rfl dX1_addWrite_39 (c_X1_clockOf V _ _ _ h39) ?_
  refine x_iconst C 42 dX1_addWrite_42 ki_1 ?_
  refine x_iadd C 43 dX1_addWrite_43 ?_
  refine x_iast C 44 (Nat.le_of_ble_eq_true rfl) (kc_33 V) dX1_addWrite_44 (fun _ s_44 => ?_)
  refine x_aload_n C 45 1 dX1_addWrite_45 rfl ?_
  refine fgc_X1_11 C 46 dX1_addWrite_46 ?_
  refine x_iconst C 49 dX1_addWrite_49 ki_2 ?_
  refine x_dup2 C 50 dX1_addWrite_50 rfl rfl ?_
  refine x_lald C 51 (Nat.le_of_ble_eq_true rfl) (kc_29 V _) dX1_addWrite_51 (fun _ => ?_)
  refine x_lconst C 52 dX1_addWrite_52 kl_1 ?_
  refine x_ladd C 53 dX1_addWrite_53 ?_
  refine x_last C 54 (Nat.le_of_ble_eq_true rfl) (kc_29 V) dX1_addWrite_54 (fun _ s_54 => ?_)
  refine x_aload_n C 55 1 dX1_addWrite_55 rfl ?_
  refine fgc_X1_11 C 56 dX1_addWrite_56 ?_
  refine x_bipush C 59 dX1_addWrite_59 kb_6 ?_
  refine x_iload_n C 61 3 dX1_addWrite_61 rfl ?_
  refine x_iadd C 62 dX1_addWrite_62 ?_
  refine x_dup2 C 63 dX1_addWrite_63 rfl rfl ?_
  refine x_lald C 64 (Nat.le_of_ble_eq_true rfl) (kc_29 V _) dX1_addWrite_64 (fun _ => ?_)
  refine x_lconst C 65 dX1_addWrite_65 kl_1 ?_
  refine x_iload C 66 0 dX1_addWrite_66 rfl ?_
  refine x_lshl C 68 dX1_addWrite_68 ?_
  refine x_lor C 69 dX1_addWrite_69 ?_
  refine x_last C 70 (Nat.le_of_ble_eq_true rfl) (kc_29 V) dX1_addWrite_70 (fun _ s_70 => ?_)
  refine x_iload_n C 71 2 dX1_addWrite_71 rfl ?_
  refine x_iconst C 72 dX1_addWrite_72 ki_m1 ?_
  have hJ97 : ∀ (σ_97 : Wd) (v2_97 : Int32) (v5_97 : Int32), Y K (Zc V) (M_X1_addWrite_J97 σ_97 v2_97 v5_97) (fun q => q = (r, σ2)) σ_97 97 [(0, .ref (zA (Zc V) 28)), (2, .int v2_97), (5, .int v5_97)] [] := by
    intro σ_97 v2_97 v5_97
    unfold M_X1_addWrite_J97
    refine x_iload_n C 97 1 dX1_addWrite_97 rfl ?_
    refine x_aload_n C 98 0 dX1_addWrite_98 rfl ?_
    refine Y_bnd1 (fun r99 h99 => ?_)
    refine x_callVi C 99 [] [.int v2_97] rfl tw_699 mv_X1_primary (Nat.le_of_ble_eq_true rfl) (Nat.le_of_ble_eq_true rfl) (Nat.le_of_ble_eq_true rfl) (Nat.le_of_ble_eq_true rfl) (kc_28 V _) rfl dX1_addWrite_99 (c_X1_primary V _ _  h99) ?_
    refine x_icmp_ne C 102 131 dX1_addWrite_102 (by decide) (fun _ => ?_) (fun _ => ?_)
    · refine x_iload C 131 2 dX1_addWrite_131 rfl ?_
      exact x_iret2 C R 133 dX1_addWrite_133
    · refine x_aload_n C 105 0 dX1_addWrite_105 rfl ?_
      refine x_aload_n C 106 0 dX1_addWrite_106 rfl ?_
      refine fgc_X1_34 C 107 dX1_addWrite_107 ?_
      refine x_aload_n C 110 0 dX1_addWrite_110 rfl ?_
      refine x_aload_n C 111 0 dX1_addWrite_111 rfl ?_
      refine x_iload_n C 112 1 dX1_addWrite_112 rfl ?_
      refine Y_bnd1 (fun r113 h113 => ?_)
      refine x_callVl C 113 [.int v2_97] [.ref (zA (Zc V) 28), .ref (zA (Zc V) 36), .ref (zA (Zc V) 28)] rfl tw_677 mv_X1_setOf (Nat.le_of_ble_eq_true rfl) (Nat.le_of_ble_eq_true rfl) (Nat.le_of_ble_eq_true rfl) (Nat.le_of_ble_eq_true rfl) (kc_28 V _) rfl dX1_addWrite_113 (c_X1_setOf V _ _ _ h113) ?_
      refine x_aload_n C 116 0 dX1_addWrite_116 rfl ?_
      refine x_iload_n C 117 1 dX1_addWrite_117 rfl ?_
      refine Y_bnd1 (fun r118 h118 => ?_)
      refine x_callVi C 118 [.int v2_97] [.long r113, .ref (zA (Zc V) 28), .ref (zA (Zc V) 36), .ref (zA (Zc V) 28)] rfl tw_703 mv_X1_knownOf (Nat.le_of_ble_eq_true rfl) (Nat.le_of_ble_eq_true rfl) (Nat.le_of_ble_eq_true rfl) (Nat.le_of_ble_eq_true rfl) (kc_28 V _) rfl dX1_addWrite_118 (c_X1_knownOf V _ _ _ h118) ?_
      refine x_aload_n C 121 0 dX1_addWrite_121 rfl ?_
      refine fgc_X1_34 C 122 dX1_addWrite_122 ?_
      refine Y_bnd2 (fun r125 s_125 h125 => ?_)
      refine x_callVi C 125 [.long r113, .int r118, .ref (zA (Zc V) 36)] [.ref (zA (Zc V) 36), .ref (zA (Zc V) 28)] rfl tw_707 mv_X1_layLog (Nat.le_of_ble_eq_true rfl) (Nat.le_of_ble_eq_true rfl) (Nat.le_of_ble_eq_true rfl) (Nat.le_of_ble_eq_true rfl) (kc_28 V _) rfl dX1_addWrite_125 (c_X1_layLog V _ _ _ _ _ _ (Nat.le_of_ble_eq_true rfl) (kc_36 V) h125) ?_
      refine Y_bnd1 (fun s_128 h128 => ?_)
      refine x_callVv C 128 [.ref (zA (Zc V) 36), .int r125] [] rfl tw_716 mv_X1_giveOrder (Nat.le_of_ble_eq_true rfl) (Nat.le_of_ble_eq_true rfl) (Nat.le_of_ble_eq_true rfl) (Nat.le_of_ble_eq_true rfl) (kc_28 V _) rfl dX1_addWrite_128 (c_X1_giveOrder V _ _ _ _ (Nat.le_of_ble_eq_true rfl) (kc_36 V) _ h128) ?_
      refine x_iload C 131 2 dX1_addWrite_131 rfl ?_
      exact x_iret2 C R 133 dX1_addWrite_133
  refine x_icmp_eq C 73 97 dX1_addWrite_73 (by decide) (fun _ => ?_) (fun _ => ?_)
  · refine Y_sub [1, 3, 0] rfl ?_
    exact hJ97 _ _ _
  · refine x_aload_n C 76 1 dX1_addWrite_76 rfl ?_
    refine fgc_X1_11 C 77 dX1_addWrite_77 ?_
    refine x_bipush C 80 dX1_addWrite_80 kb_76 ?_
    refine x_iload_n C 82 2 dX1_addWrite_82 rfl ?_
    refine x_iconst C 83 dX1_addWrite_83 ki_5 ?_
    refine x_imul C 84 dX1_addWrite_84 ?_
    refine x_iadd C 85 dX1_addWrite_85 ?_
    refine x_iload_n C 86 3 dX1_addWrite_86 rfl ?_
    refine x_iadd C 87 dX1_addWrite_87 ?_
    refine x_aload_n C 88 1 dX1_addWrite_88 rfl ?_
    refine fgc_X1_25 C 89 dX1_addWrite_89 ?_
    refine x_iload C 92 0 dX1_addWrite_92 rfl ?_
    refine x_iald C 94 (Nat.le_of_ble_eq_true rfl) (kc_33 V _) dX1_addWrite_94 (fun _ => ?_)
    refine x_i2l C 95 dX1_addWrite_95 ?_
    refine x_last C 96 (Nat.le_of_ble_eq_true rfl) (kc_29 V) dX1_addWrite_96 (fun _ s_96 => ?_)
    refine Y_sub [1, 3, 0] rfl ?_
    exact hJ97 _ _ _
def M_X1_openLog (σ : Wd) (v1 : Int32) : Option Wd :=
  chk (ib ((26 : Int32) + v1) 96) (chk (ib ((26 : Int32) + v1) 96) (lt (uL σ 29 (ix ((26 : Int32) + v1)) ((gL σ 29 (ix ((26 : Int32) + v1))) + (1 : Int64))) fun s_12 => some s_12))
set_option maxRecDepth 100000 in
set_option maxHeartbeats 4000000 in
theorem c_X1_openLog (V : Ct_V) (l : Launch) (σ : Wd) (v1 : Int32) {σ2 : Wd} (h : M_X1_openLog σ v1 = some σ2) : Ct l (Zc V) yX1_openLog cX1_openLog 2 none 0 0 [.ref (zA (Zc V) 28), .int v1] σ none σ2 := by
  refine Ct_intro (own := RX1) zc_ok (by decide +kernel) rfl (Nat.le_of_ble_eq_true rfl) [(0, .ref (zA (Zc V) 28)), (1, .int v1)] rfl (fun K C R hKl hnL => ?_)
  have hN := nl_of hnL
  subst hKl
  refine Y_end h ?_
  unfold M_X1_openLog
  refine x_aload_n C 0 0 dX1_openLog_0 rfl ?_
  refine fgc_X1_11 C 1 dX1_openLog_1 ?_
  refine x_bipush C 4 dX1_openLog_4 kb_26 ?_
  refine x_iload_n C 6 1 dX1_openLog_6 rfl ?_
  refine x_iadd C 7 dX1_openLog_7 ?_
  refine x_dup2 C 8 dX1_openLog_8 rfl rfl ?_
  refine x_lald C 9 (Nat.le_of_ble_eq_true rfl) (kc_29 V _) dX1_openLog_9 (fun _ => ?_)
  refine x_lconst C 10 dX1_openLog_10 kl_1 ?_
  refine x_ladd C 11 dX1_openLog_11 ?_
  refine x_last C 12 (Nat.le_of_ble_eq_true rfl) (kc_29 V) dX1_openLog_12 (fun _ s_12 => ?_)
  exact x_vret C R 13 dX1_openLog_13
def M_X1_closeLog_L16 (v1 : Int32) (v2 : Int32) (σ : Wd) : Option ((Int32 × Wd) ⊕ (Wd)) :=
  if v2 ≤ 0 then (some (.inr σ)) else (chk (ib (((36 : Int32) + v2) - (1 : Int32)) 96) (chk (ib ((36 : Int32) + v2) 96) (lt (uL σ 29 (ix ((36 : Int32) + v2)) (gL σ 29 (ix (((36 : Int32) + v2) - (1 : Int32))))) fun s_39 => lt (v2 + (-1 : Int32)) fun v2_40 => some (.inl (v2_40, s_39)))))
def M_X1_closeLog (σ : Wd) (v1 : Int32) : Option Wd :=
  chk (ib ((31 : Int32) + v1) 96) (chk (ib ((31 : Int32) + v1) 96) (lt (uL σ 29 (ix ((31 : Int32) + v1)) ((gL σ 29 (ix ((31 : Int32) + v1))) + (1 : Int64))) fun s_12 => bnd1 (iter (fun s : Int32 × Wd => M_X1_closeLog_L16 v1 s.1 s.2) FU ((7 : Int32), s_12)) (un1 fun sx_16 => (chk (ib (36 : Int32) 96) (lt (uL sx_16 29 (ix (36 : Int32)) v1.toInt64) fun s_54 => chk (ib (5 : Int32) 96) (chk (ib (5 : Int32) 96) (lt (uL s_54 29 (ix (5 : Int32)) (if (8 : Int64) < ((gL s_54 29 (ix (5 : Int32))) + (1 : Int64)) then (8 : Int64) else ((gL s_54 29 (ix (5 : Int32))) + (1 : Int64)))) fun s_74 => some s_74)))))))
set_option maxRecDepth 100000 in
set_option maxHeartbeats 4000000 in
theorem c_X1_closeLog (V : Ct_V) (l : Launch) (σ : Wd) (v1 : Int32) {σ2 : Wd} (h : M_X1_closeLog σ v1 = some σ2) : Ct l (Zc V) yX1_closeLog cX1_closeLog 3 none 1 30 [.ref (zA (Zc V) 28), .int v1] σ none σ2 := by
  refine Ct_intro (own := RX1) zc_ok (by decide +kernel) rfl (Nat.le_of_ble_eq_true rfl) [(0, .ref (zA (Zc V) 28)), (1, .int v1)] rfl (fun K C R hKl hnL => ?_)
  have hN := nl_of hnL
  subst hKl
  refine Y_end h ?_
  unfold M_X1_closeLog
  refine x_aload_n C 0 0 dX1_closeLog_0 rfl ?_
  refine fgc_X1_11 C 1 dX1_closeLog_1 ?_
  refine x_bipush C 4 dX1_closeLog_4 kb_31 ?_
  refine x_iload_n C 6 1 dX1_closeLog_6 rfl ?_
  refine x_iadd C 7 dX1_closeLog_7 ?_
  refine x_dup2 C 8 dX1_closeLog_8 rfl rfl ?_
  refine x_lald C 9 (Nat.le_of_ble_eq_true rfl) (kc_29 V _) dX1_closeLog_9 (fun _ => ?_)
  refine x_lconst C 10 dX1_closeLog_10 kl_1 ?_
  refine x_ladd C 11 dX1_closeLog_11 ?_
  refine x_last C 12 (Nat.le_of_ble_eq_true rfl) (kc_29 V) dX1_closeLog_12 (fun _ s_12 => ?_)
  refine x_bipush C 13 dX1_closeLog_13 kb_7 ?_
  refine x_istore_n C 15 (L' := [(2, .int (7 : Int32)), (0, .ref (zA (Zc V) 28)), (1, .int v1)]) dX1_closeLog_15 rfl (hN _ (Nat.le_of_ble_eq_true rfl)) rfl ?_
  refine Y_sub [1, 2, 0] rfl ?_
  refine x_loop 16 (fun s : Int32 × Wd => s.2) (fun s : Int32 × Wd => [(0, .ref (zA (Zc V) 28)), (1, .int v1), (2, .int s.1)]) (fun E16 hb16 hx16 s => ?_) FU ((7 : Int32), s_12)
  obtain ⟨v2_16, s_16⟩ := s
  show Y K (Zc V) (M_X1_closeLog_L16 v1 v2_16 s_16) E16 s_16 16 [(0, .ref (zA (Zc V) 28)), (1, .int v1), (2, .int v2_16)] []
  unfold M_X1_closeLog_L16
  refine x_iload_n C 16 2 dX1_closeLog_16 rfl ?_
  refine x_if_le C 17 46 dX1_closeLog_17 (by decide) (fun _ => ?_) (fun _ => ?_)
  · refine x_ex1 hx16 s_16 ?_
    refine x_aload_n C 46 0 dX1_closeLog_46 rfl ?_
    refine fgc_X1_11 C 47 dX1_closeLog_47 ?_
    refine x_bipush C 50 dX1_closeLog_50 kb_36 ?_
    refine x_iload_n C 52 1 dX1_closeLog_52 rfl ?_
    refine x_i2l C 53 dX1_closeLog_53 ?_
    refine x_last C 54 (Nat.le_of_ble_eq_true rfl) (kc_29 V) dX1_closeLog_54 (fun _ s_54 => ?_)
    refine x_aload_n C 55 0 dX1_closeLog_55 rfl ?_
    refine fgc_X1_11 C 56 dX1_closeLog_56 ?_
    refine x_iconst C 59 dX1_closeLog_59 ki_5 ?_
    refine x_aload_n C 60 0 dX1_closeLog_60 rfl ?_
    refine fgc_X1_11 C 61 dX1_closeLog_61 ?_
    refine x_iconst C 64 dX1_closeLog_64 ki_5 ?_
    refine x_lald C 65 (Nat.le_of_ble_eq_true rfl) (kc_29 V _) dX1_closeLog_65 (fun _ => ?_)
    refine x_lconst C 66 dX1_closeLog_66 kl_1 ?_
    refine x_ladd C 67 dX1_closeLog_67 ?_
    refine x_ldc2 C 68 (hw := tw_728) dX1_closeLog_68 ?_
    refine x_mminl C 71 tw_729 tw_730 tw_49 tw_731 (Nat.le_of_ble_eq_true rfl) (Nat.le_of_ble_eq_true rfl) dX1_closeLog_71 ?_
    refine x_last C 74 (Nat.le_of_ble_eq_true rfl) (kc_29 V) dX1_closeLog_74 (fun _ s_74 => ?_)
    exact x_vret C R 75 dX1_closeLog_75
  · refine x_aload_n C 20 0 dX1_closeLog_20 rfl ?_
    refine fgc_X1_11 C 21 dX1_closeLog_21 ?_
    refine x_bipush C 24 dX1_closeLog_24 kb_36 ?_
    refine x_iload_n C 26 2 dX1_closeLog_26 rfl ?_
    refine x_iadd C 27 dX1_closeLog_27 ?_
    refine x_aload_n C 28 0 dX1_closeLog_28 rfl ?_
    refine fgc_X1_11 C 29 dX1_closeLog_29 ?_
    refine x_bipush C 32 dX1_closeLog_32 kb_36 ?_
    refine x_iload_n C 34 2 dX1_closeLog_34 rfl ?_
    refine x_iadd C 35 dX1_closeLog_35 ?_
    refine x_iconst C 36 dX1_closeLog_36 ki_1 ?_
    refine x_isub C 37 dX1_closeLog_37 ?_
    refine x_lald C 38 (Nat.le_of_ble_eq_true rfl) (kc_29 V _) dX1_closeLog_38 (fun _ => ?_)
    refine x_last C 39 (Nat.le_of_ble_eq_true rfl) (kc_29 V) dX1_closeLog_39 (fun _ s_39 => ?_)
    refine x_iinct C 40 2 (-1 : Int32) (fun v2_40 => [(2, .int v2_40), (0, .ref (zA (Zc V) 28)), (1, .int v1)]) dX1_closeLog_40 rfl ki_m1 (hN _ (Nat.le_of_ble_eq_true rfl)) (fun _ => rfl) (fun v2_40 => ?_)
    refine x_goto C 43 16 dX1_closeLog_43 (by decide) ?_
    refine Y_sub [1, 2, 0] rfl ?_
    exact x_back (v2_40, s_39) (hb16 (v2_40, s_39))
def M_X1_holdMeeting_J150 (σ : Wd) (v1 : Int32) (v2 : Int32) (v3 : Int32) (v5 : Int32) : Option (Int32 × Wd) :=
  bnd1 (M_X1_alikeFromStart σ 35 60 v3 36 60 v5) fun r161 => chk (ib ((16 : Int32) + v2) 96) (chk (ib ((16 : Int32) + v2) 96) (lt (uL σ 29 (ix ((16 : Int32) + v2)) ((gL σ 29 (ix ((16 : Int32) + v2))) + (v3 - r161).toInt64)) fun s_182 => chk (ib ((21 : Int32) + v2) 96) (chk (ib ((21 : Int32) + v2) 96) (lt (uL s_182 29 (ix ((21 : Int32) + v2)) ((gL s_182 29 (ix ((21 : Int32) + v2))) + (v5 - r161).toInt64)) fun s_200 => bnd1 (M_X1_closeLog s_200 v1) fun s_203 => bnd1 (M_X1_closeLog s_203 v2) fun s_208 => some ((v3 - r161), s_208)))))
def M_X1_holdMeeting_J54 (σ : Wd) (v1 : Int32) (v2 : Int32) (v3 : Int32) (t0 : Int32) : Option (Int32 × Wd) :=
  chk (ib ((6 : Int32) + v2) 96) (chk (ib ((6 : Int32) + v1) 96) (chk (ib ((6 : Int32) + v2) 96) (lt (uL σ 29 (ix ((6 : Int32) + v2)) ((gL σ 29 (ix ((6 : Int32) + v2))) ||| (gL σ 29 (ix ((6 : Int32) + v1))))) fun s_76 => chk (ib ((11 : Int32) + v2) 96) (chk (ib ((11 : Int32) + v1) 96) (chk (ib ((11 : Int32) + v2) 96) (lt (uL s_76 29 (ix ((11 : Int32) + v2)) (if (gL s_76 29 (ix ((11 : Int32) + v1))) < (gL s_76 29 (ix ((11 : Int32) + v2))) then (gL s_76 29 (ix ((11 : Int32) + v2))) else (gL s_76 29 (ix ((11 : Int32) + v1))))) fun s_106 => bnd1 (M_X1_setOf s_106 v2) fun r110 => bnd1 (M_X1_knownOf s_106 v2) fun r115 => bnd2 (M_X1_layLog s_106 r110 r115 36 60) fun r122 s_122 => bnd1 (M_X1_primary s_122) fun r129 => if v2 ≠ r129 then (M_X1_holdMeeting_J150 s_122 v1 v2 v3 r122) else (if t0 = 0 then (M_X1_holdMeeting_J150 s_122 v1 v2 v3 r122) else (bnd1 (M_X1_giveOrder s_122 36 60 r122) fun s_147 => M_X1_holdMeeting_J150 s_147 v1 v2 v3 r122))))))))
def M_X1_holdMeeting (σ : Wd) (v1 : Int32) (v2 : Int32) : Option (Int32 × Wd) :=
  bnd1 (M_X1_openLog σ v2) fun s_2 => bnd1 (M_X1_openLog s_2 v1) fun s_7 => bnd1 (M_X1_setOf s_7 v2) fun r13 => bnd1 (M_X1_knownOf s_7 v2) fun r18 => bnd2 (M_X1_layLog s_7 r13 r18 35 60) fun r25 s_25 => bnd1 (M_X1_setOf s_25 v1) fun r31 => bnd1 (M_X1_setOf s_25 v2) fun r36 => if (lg_cmp (r31 &&& (r36 ^^^ (-1 : Int64))) (0 : Int64)) = 0 then (M_X1_holdMeeting_J54 s_25 v1 v2 r25 (0 : Int32)) else (M_X1_holdMeeting_J54 s_25 v1 v2 r25 (1 : Int32))
set_option maxRecDepth 100000 in
set_option maxHeartbeats 4000000 in
theorem c_X1_holdMeeting (V : Ct_V) (l : Launch) (σ : Wd) (v1 : Int32) (v2 : Int32) {r : Int32} {σ2 : Wd} (h : M_X1_holdMeeting σ v1 v2 = some (r, σ2)) : Ct l (Zc V) yX1_holdMeeting cX1_holdMeeting 7 (some .int) 2 52 [.ref (zA (Zc V) 28), .int v1, .int v2] σ (some (.int r)) σ2 := by
  refine Ct_intro (own := RX1) zc_ok (by decide +kernel) rfl (Nat.le_of_ble_eq_true rfl) [(0, .ref (zA (Zc V) 28)), (1, .int v1), (2, .int v2)] rfl (fun K C R hKl hnL => ?_)
  have hN := nl_of hnL
  subst hKl
  refine Y_end h ?_
  unfold M_X1_holdMeeting
  refine x_aload_n C 0 0 dX1_holdMeeting_0 rfl ?_
  refine x_iload_n C 1 2 dX1_holdMeeting_1 rfl ?_
  refine Y_bnd1 (fun s_2 h2 => ?_)
  refine x_callVv C 2 [.int v2] [] rfl tw_820 mv_X1_openLog (Nat.le_of_ble_eq_true rfl) (Nat.le_of_ble_eq_true rfl) (Nat.le_of_ble_eq_true rfl) (Nat.le_of_ble_eq_true rfl) (kc_28 V _) rfl dX1_holdMeeting_2 (c_X1_openLog V _ _ _ h2) ?_
  refine x_aload_n C 5 0 dX1_holdMeeting_5 rfl ?_
  refine x_iload_n C 6 1 dX1_holdMeeting_6 rfl ?_
  refine Y_bnd1 (fun s_7 h7 => ?_)
  refine x_callVv C 7 [.int v1] [] rfl tw_820 mv_X1_openLog (Nat.le_of_ble_eq_true rfl) (Nat.le_of_ble_eq_true rfl) (Nat.le_of_ble_eq_true rfl) (Nat.le_of_ble_eq_true rfl) (kc_28 V _) rfl dX1_holdMeeting_7 (c_X1_openLog V _ _ _ h7) ?_
  refine x_aload_n C 10 0 dX1_holdMeeting_10 rfl ?_
  refine x_aload_n C 11 0 dX1_holdMeeting_11 rfl ?_
  refine x_iload_n C 12 2 dX1_holdMeeting_12 rfl ?_
  refine Y_bnd1 (fun r13 h13 => ?_)
  refine x_callVl C 13 [.int v2] [.ref (zA (Zc V) 28)] rfl tw_677 mv_X1_setOf (Nat.le_of_ble_eq_true rfl) (Nat.le_of_ble_eq_true rfl) (Nat.le_of_ble_eq_true rfl) (Nat.le_of_ble_eq_true rfl) (kc_28 V _) rfl dX1_holdMeeting_13 (c_X1_setOf V _ _ _ h13) ?_
  refine x_aload_n C 16 0 dX1_holdMeeting_16 rfl ?_
  refine x_iload_n C 17 2 dX1_holdMeeting_17 rfl ?_
  refine Y_bnd1 (fun r18 h18 => ?_)
  refine x_callVi C 18 [.int v2] [.long r13, .ref (zA (Zc V) 28)] rfl tw_703 mv_X1_knownOf (Nat.le_of_ble_eq_true rfl) (Nat.le_of_ble_eq_true rfl) (Nat.le_of_ble_eq_true rfl) (Nat.le_of_ble_eq_true rfl) (kc_28 V _) rfl dX1_holdMeeting_18 (c_X1_knownOf V _ _ _ h18) ?_
  refine x_aload_n C 21 0 dX1_holdMeeting_21 rfl ?_
  refine fgc_X1_31 C 22 dX1_holdMeeting_22 ?_
  refine Y_bnd2 (fun r25 s_25 h25 => ?_)
  refine x_callVi C 25 [.long r13, .int r18, .ref (zA (Zc V) 35)] [] rfl tw_707 mv_X1_layLog (Nat.le_of_ble_eq_true rfl) (Nat.le_of_ble_eq_true rfl) (Nat.le_of_ble_eq_true rfl) (Nat.le_of_ble_eq_true rfl) (kc_28 V _) rfl dX1_holdMeeting_25 (c_X1_layLog V _ _ _ _ _ _ (Nat.le_of_ble_eq_true rfl) (kc_35 V) h25) ?_
  refine x_istore_n C 28 (L' := [(3, .int r25), (0, .ref (zA (Zc V) 28)), (1, .int v1), (2, .int v2)]) dX1_holdMeeting_28 rfl (hN _ (Nat.le_of_ble_eq_true rfl)) rfl ?_
  refine x_aload_n C 29 1 dX1_holdMeeting_29 rfl ?_
  refine x_iload_n C 30 2 dX1_holdMeeting_30 rfl ?_
  refine Y_bnd1 (fun r31 h31 => ?_)
  refine x_callVl C 31 [.int v1] [] rfl tw_677 mv_X1_setOf (Nat.le_of_ble_eq_true rfl) (Nat.le_of_ble_eq_true rfl) (Nat.le_of_ble_eq_true rfl) (Nat.le_of_ble_eq_true rfl) (kc_28 V _) rfl dX1_holdMeeting_31 (c_X1_setOf V _ _ _ h31) ?_
  refine x_aload_n C 34 1 dX1_holdMeeting_34 rfl ?_
  refine x_iload_n C 35 3 dX1_holdMeeting_35 rfl ?_
  refine Y_bnd1 (fun r36 h36 => ?_)
  refine x_callVl C 36 [.int v2] [.long r31] rfl tw_677 mv_X1_setOf (Nat.le_of_ble_eq_true rfl) (Nat.le_of_ble_eq_true rfl) (Nat.le_of_ble_eq_true rfl) (Nat.le_of_ble_eq_true rfl) (kc_28 V _) rfl dX1_holdMeeting_36 (c_X1_setOf V _ _ _ h36) ?_
  refine x_ldc2 C 39 (hw := tw_711) dX1_holdMeeting_39 ?_
  refine x_lxor C 42 dX1_holdMeeting_42 ?_
  refine x_land C 43 dX1_holdMeeting_43 ?_
  refine x_lconst C 44 dX1_holdMeeting_44 kl_0 ?_
  refine x_lcmp C 45 dX1_holdMeeting_45 ?_
  have hJ54 : ∀ (σ_54 : Wd) (v1_54 : Int32) (v2_54 : Int32) (v3_54 : Int32) (t0_54 : Int32), Y K (Zc V) (M_X1_holdMeeting_J54 σ_54 v1_54 v2_54 v3_54 t0_54) (fun q => q = (r, σ2)) σ_54 54 [(0, .ref (zA (Zc V) 28)), (1, .int v1_54), (2, .int v2_54), (3, .int v3_54)] [.int t0_54] := by
    intro σ_54 v1_54 v2_54 v3_54 t0_54
    unfold M_X1_holdMeeting_J54
    refine x_istore C 54 (L' := [(4, .int t0_54), (0, .ref (zA (Zc V) 28)), (1, .int v1_54), (2, .int v2_54), (3, .int v3_54)]) dX1_holdMeeting_54 (hN _ (Nat.le_of_ble_eq_true rfl)) rfl ?_
    refine x_aload_n C 56 1 dX1_holdMeeting_56 rfl ?_
    refine fgc_X1_11 C 57 dX1_holdMeeting_57 ?_
    refine x_bipush C 60 dX1_holdMeeting_60 kb_6 ?_
    refine x_iload_n C 62 3 dX1_holdMeeting_62 rfl ?_
    refine x_iadd C 63 dX1_holdMeeting_63 ?_
    refine x_dup2 C 64 dX1_holdMeeting_64 rfl rfl ?_
    refine x_lald C 65 (Nat.le_of_ble_eq_true rfl) (kc_29 V _) dX1_holdMeeting_65 (fun _ => ?_)
    refine x_aload_n C 66 1 dX1_holdMeeting_66 rfl ?_
    refine fgc_X1_11 C 67 dX1_holdMeeting_67 ?_
    refine x_bipush C 70 dX1_holdMeeting_70 kb_6 ?_
    refine x_iload_n C 72 2 dX1_holdMeeting_72 rfl ?_
    refine x_iadd C 73 dX1_holdMeeting_73 ?_
    refine x_lald C 74 (Nat.le_of_ble_eq_true rfl) (kc_29 V _) dX1_holdMeeting_74 (fun _ => ?_)
    refine x_lor C 75 dX1_holdMeeting_75 ?_
    refine x_last C 76 (Nat.le_of_ble_eq_true rfl) (kc_29 V) dX1_holdMeeting_76 (fun _ s_76 => ?_)
    refine x_aload_n C 77 1 dX1_holdMeeting_77 rfl ?_
    refine fgc_X1_11 C 78 dX1_holdMeeting_78 ?_
    refine x_bipush C 81 dX1_holdMeeting_81 kb_11 ?_
    refine x_iload_n C 83 3 dX1_holdMeeting_83 rfl ?_
    refine x_iadd C 84 dX1_holdMeeting_84 ?_
    refine x_aload_n C 85 1 dX1_holdMeeting_85 rfl ?_
    refine fgc_X1_11 C 86 dX1_holdMeeting_86 ?_
    refine x_bipush C 89 dX1_holdMeeting_89 kb_11 ?_
    refine x_iload_n C 91 3 dX1_holdMeeting_91 rfl ?_
    refine x_iadd C 92 dX1_holdMeeting_92 ?_
    refine x_lald C 93 (Nat.le_of_ble_eq_true rfl) (kc_29 V _) dX1_holdMeeting_93 (fun _ => ?_)
    refine x_aload_n C 94 1 dX1_holdMeeting_94 rfl ?_
    refine fgc_X1_11 C 95 dX1_holdMeeting_95 ?_
    refine x_bipush C 98 dX1_holdMeeting_98 kb_11 ?_
    refine x_iload_n C 100 2 dX1_holdMeeting_100 rfl ?_
    refine x_iadd C 101 dX1_holdMeeting_101 ?_
    refine x_lald C 102 (Nat.le_of_ble_eq_true rfl) (kc_29 V _) dX1_holdMeeting_102 (fun _ => ?_)
    refine x_mmaxl C 103 tw_785 tw_786 tw_49 tw_787 (Nat.le_of_ble_eq_true rfl) (Nat.le_of_ble_eq_true rfl) dX1_holdMeeting_103 ?_
    refine x_last C 106 (Nat.le_of_ble_eq_true rfl) (kc_29 V) dX1_holdMeeting_106 (fun _ s_106 => ?_)
    refine x_aload_n C 107 1 dX1_holdMeeting_107 rfl ?_
    refine x_aload_n C 108 1 dX1_holdMeeting_108 rfl ?_
    refine x_iload_n C 109 3 dX1_holdMeeting_109 rfl ?_
    refine Y_bnd1 (fun r110 h110 => ?_)
    refine x_callVl C 110 [.int v2_54] [.ref (zA (Zc V) 28)] rfl tw_677 mv_X1_setOf (Nat.le_of_ble_eq_true rfl) (Nat.le_of_ble_eq_true rfl) (Nat.le_of_ble_eq_true rfl) (Nat.le_of_ble_eq_true rfl) (kc_28 V _) rfl dX1_holdMeeting_110 (c_X1_setOf V _ _ _ h110) ?_
    refine x_aload_n C 113 1 dX1_holdMeeting_113 rfl ?_
    refine x_iload_n C 114 3 dX1_holdMeeting_114 rfl ?_
    refine Y_bnd1 (fun r115 h115 => ?_)
    refine x_callVi C 115 [.int v2_54] [.long r110, .ref (zA (Zc V) 28)] rfl tw_703 mv_X1_knownOf (Nat.le_of_ble_eq_true rfl) (Nat.le_of_ble_eq_true rfl) (Nat.le_of_ble_eq_true rfl) (Nat.le_of_ble_eq_true rfl) (kc_28 V _) rfl dX1_holdMeeting_115 (c_X1_knownOf V _ _ _ h115) ?_
    refine x_aload_n C 118 1 dX1_holdMeeting_118 rfl ?_
    refine fgc_X1_34 C 119 dX1_holdMeeting_119 ?_
    refine Y_bnd2 (fun r122 s_122 h122 => ?_)
    refine x_callVi C 122 [.long r110, .int r115, .ref (zA (Zc V) 36)] [] rfl tw_707 mv_X1_layLog (Nat.le_of_ble_eq_true rfl) (Nat.le_of_ble_eq_true rfl) (Nat.le_of_ble_eq_true rfl) (Nat.le_of_ble_eq_true rfl) (kc_28 V _) rfl dX1_holdMeeting_122 (c_X1_layLog V _ _ _ _ _ _ (Nat.le_of_ble_eq_true rfl) (kc_36 V) h122) ?_
    refine x_istore C 125 (L' := [(5, .int r122), (4, .int t0_54), (0, .ref (zA (Zc V) 28)), (1, .int v1_54), (2, .int v2_54), (3, .int v3_54)]) dX1_holdMeeting_125 (hN _ (Nat.le_of_ble_eq_true rfl)) rfl ?_
    refine x_iload_n C 127 4 dX1_holdMeeting_127 rfl ?_
    refine x_aload_n C 128 2 dX1_holdMeeting_128 rfl ?_
    refine Y_bnd1 (fun r129 h129 => ?_)
    refine x_callVi C 129 [] [.int v2_54] rfl tw_699 mv_X1_primary (Nat.le_of_ble_eq_true rfl) (Nat.le_of_ble_eq_true rfl) (Nat.le_of_ble_eq_true rfl) (Nat.le_of_ble_eq_true rfl) (kc_28 V _) rfl dX1_holdMeeting_129 (c_X1_primary V _ _  h129) ?_
    have hJ150 : ∀ (σ_150 : Wd) (v1_150 : Int32) (v2_150 : Int32) (v3_150 : Int32) (v5_150 : Int32), Y K (Zc V) (M_X1_holdMeeting_J150 σ_150 v1_150 v2_150 v3_150 v5_150) (fun q => q = (r, σ2)) σ_150 150 [(0, .ref (zA (Zc V) 28)), (1, .int v1_150), (2, .int v2_150), (3, .int v3_150), (5, .int v5_150)] [] := by
      intro σ_150 v1_150 v2_150 v3_150 v5_150
      unfold M_X1_holdMeeting_J150
      refine x_aload_n C 150 0 dX1_holdMeeting_150 rfl ?_
      refine fgc_X1_31 C 151 dX1_holdMeeting_151 ?_
      refine x_iload_n C 154 3 dX1_holdMeeting_154 rfl ?_
      refine x_aload_n C 155 0 dX1_holdMeeting_155 rfl ?_
      refine fgc_X1_34 C 156 dX1_holdMeeting_156 ?_
      refine x_iload C 159 4 dX1_holdMeeting_159 rfl ?_
      refine Y_bnd1 (fun r161 h161 => ?_)
      refine x_callSi C 161 [.ref (zA (Zc V) 35), .int v3_150, .ref (zA (Zc V) 36), .int v5_150] [] rfl tw_821 ms_X1_alikeFromStart (Nat.le_of_ble_eq_true rfl) (Nat.le_of_ble_eq_true rfl) (Nat.le_of_ble_eq_true rfl) dX1_holdMeeting_161 (c_X1_alikeFromStart V _ _ _ _ (Nat.le_of_ble_eq_true rfl) (kc_35 V) _ _ _ (Nat.le_of_ble_eq_true rfl) (kc_36 V) _ h161) ?_
      refine x_istore C 164 (L' := [(6, .int r161), (0, .ref (zA (Zc V) 28)), (1, .int v1_150), (2, .int v2_150), (3, .int v3_150), (5, .int v5_150)]) dX1_holdMeeting_164 (hN _ (Nat.le_of_ble_eq_true rfl)) rfl ?_
      refine x_aload_n C 166 1 dX1_holdMeeting_166 rfl ?_
      refine fgc_X1_11 C 167 dX1_holdMeeting_167 ?_
      refine x_bipush C 170 dX1_holdMeeting_170 kb_16 ?_
      refine x_iload_n C 172 3 dX1_holdMeeting_172 rfl ?_
      refine x_iadd C 173 dX1_holdMeeting_173 ?_
      refine x_dup2 C 174 dX1_holdMeeting_174 rfl rfl ?_
      refine x_lald C 175 (Nat.le_of_ble_eq_true rfl) (kc_29 V _) dX1_holdMeeting_175 (fun _ => ?_)
      refine x_iload_n C 176 4 dX1_holdMeeting_176 rfl ?_
      refine x_iload C 177 0 dX1_holdMeeting_177 rfl ?_
      refine x_isub C 179 dX1_holdMeeting_179 ?_
      refine x_i2l C 180 dX1_holdMeeting_180 ?_
      refine x_ladd C 181 dX1_holdMeeting_181 ?_
      refine x_last C 182 (Nat.le_of_ble_eq_true rfl) (kc_29 V) dX1_holdMeeting_182 (fun _ s_182 => ?_)
      refine x_aload_n C 183 1 dX1_holdMeeting_183 rfl ?_
      refine fgc_X1_11 C 184 dX1_holdMeeting_184 ?_
      refine x_bipush C 187 dX1_holdMeeting_187 kb_21 ?_
      refine x_iload_n C 189 3 dX1_holdMeeting_189 rfl ?_
      refine x_iadd C 190 dX1_holdMeeting_190 ?_
      refine x_dup2 C 191 dX1_holdMeeting_191 rfl rfl ?_
      refine x_lald C 192 (Nat.le_of_ble_eq_true rfl) (kc_29 V _) dX1_holdMeeting_192 (fun _ => ?_)
      refine x_iload C 193 5 dX1_holdMeeting_193 rfl ?_
      refine x_iload C 195 0 dX1_holdMeeting_195 rfl ?_
      refine x_isub C 197 dX1_holdMeeting_197 ?_
      refine x_i2l C 198 dX1_holdMeeting_198 ?_
      refine x_ladd C 199 dX1_holdMeeting_199 ?_
      refine x_last C 200 (Nat.le_of_ble_eq_true rfl) (kc_29 V) dX1_holdMeeting_200 (fun _ s_200 => ?_)
      refine x_aload_n C 201 1 dX1_holdMeeting_201 rfl ?_
      refine x_iload_n C 202 2 dX1_holdMeeting_202 rfl ?_
      refine Y_bnd1 (fun s_203 h203 => ?_)
      refine x_callVv C 203 [.int v1_150] [] rfl tw_824 mv_X1_closeLog (Nat.le_of_ble_eq_true rfl) (Nat.le_of_ble_eq_true rfl) (Nat.le_of_ble_eq_true rfl) (Nat.le_of_ble_eq_true rfl) (kc_28 V _) rfl dX1_holdMeeting_203 (c_X1_closeLog V _ _ _ h203) ?_
      refine x_aload_n C 206 1 dX1_holdMeeting_206 rfl ?_
      refine x_iload_n C 207 3 dX1_holdMeeting_207 rfl ?_
      refine Y_bnd1 (fun s_208 h208 => ?_)
      refine x_callVv C 208 [.int v2_150] [] rfl tw_824 mv_X1_closeLog (Nat.le_of_ble_eq_true rfl) (Nat.le_of_ble_eq_true rfl) (Nat.le_of_ble_eq_true rfl) (Nat.le_of_ble_eq_true rfl) (kc_28 V _) rfl dX1_holdMeeting_208 (c_X1_closeLog V _ _ _ h208) ?_
      refine x_iload_n C 211 4 dX1_holdMeeting_211 rfl ?_
      refine x_iload C 212 0 dX1_holdMeeting_212 rfl ?_
      refine x_isub C 214 dX1_holdMeeting_214 ?_
      exact x_iret2 C R 215 dX1_holdMeeting_215
    refine x_icmp_ne C 132 150 dX1_holdMeeting_132 (by decide) (fun _ => ?_) (fun _ => ?_)
    · refine Y_sub [2, 3, 4, 5, 0] rfl ?_
      exact hJ150 _ _ _ _ _
    · refine x_iload C 135 1 dX1_holdMeeting_135 rfl ?_
      refine x_if_eq C 137 150 dX1_holdMeeting_137 (by decide) (fun _ => ?_) (fun _ => ?_)
      · refine Y_sub [2, 3, 4, 5, 0] rfl ?_
        exact hJ150 _ _ _ _ _
      · refine x_aload_n C 140 2 dX1_holdMeeting_140 rfl ?_
        refine x_aload_n C 141 2 dX1_holdMeeting_141 rfl ?_
        refine fgc_X1_34 C 142 dX1_holdMeeting_142 ?_
        refine x_iload C 145 0 dX1_holdMeeting_145 rfl ?_
        refine Y_bnd1 (fun s_147 h147 => ?_)
        refine x_callVv C 147 [.ref (zA (Zc V) 36), .int r122] [] rfl tw_716 mv_X1_giveOrder (Nat.le_of_ble_eq_true rfl) (Nat.le_of_ble_eq_true rfl) (Nat.le_of_ble_eq_true rfl) (Nat.le_of_ble_eq_true rfl) (kc_28 V _) rfl dX1_holdMeeting_147 (c_X1_giveOrder V _ _ _ _ (Nat.le_of_ble_eq_true rfl) (kc_36 V) _ h147) ?_
        refine Y_sub [2, 3, 4, 5, 0] rfl ?_
        exact hJ150 _ _ _ _ _
  refine x_if_eq C 46 53 dX1_holdMeeting_46 (by decide) (fun _ => ?_) (fun _ => ?_)
  · refine x_iconst C 53 dX1_holdMeeting_53 ki_0 ?_
    refine Y_sub [1, 2, 3, 0] rfl ?_
    exact hJ54 _ _ _ _ _
  · refine x_iconst C 49 dX1_holdMeeting_49 ki_1 ?_
    refine x_goto C 50 54 dX1_holdMeeting_50 (by decide) ?_
    refine Y_sub [1, 2, 3, 0] rfl ?_
    exact hJ54 _ _ _ _ _
def M_X1_wouldRoll (σ : Wd) (v1 : Int32) (v2 : Int32) : Option (Int32 × Wd) :=
  bnd1 (M_X1_setOf σ v2) fun r3 => bnd1 (M_X1_knownOf σ v2) fun r8 => bnd2 (M_X1_layLog σ r3 r8 35 60) fun r15 s_15 => bnd1 (M_X1_setOf s_15 v1) fun r22 => bnd1 (M_X1_setOf s_15 v2) fun r27 => bnd1 (M_X1_knownOf s_15 v1) fun r33 => bnd1 (M_X1_knownOf s_15 v2) fun r38 => bnd2 (M_X1_layLog s_15 (r22 ||| r27) (if r33 < r38 then r38 else r33) 36 60) fun r48 s_48 => bnd1 (M_X1_alikeFromStart s_48 35 60 r15 36 60 r48) fun r65 => some ((r15 - r65), s_48)
set_option maxRecDepth 100000 in
set_option maxHeartbeats 4000000 in
theorem c_X1_wouldRoll (V : Ct_V) (l : Launch) (σ : Wd) (v1 : Int32) (v2 : Int32) {r : Int32} {σ2 : Wd} (h : M_X1_wouldRoll σ v1 v2 = some (r, σ2)) : Ct l (Zc V) yX1_wouldRoll cX1_wouldRoll 5 (some .int) 2 51 [.ref (zA (Zc V) 28), .int v1, .int v2] σ (some (.int r)) σ2 := by
  refine Ct_intro (own := RX1) zc_ok (by decide +kernel) rfl (Nat.le_of_ble_eq_true rfl) [(0, .ref (zA (Zc V) 28)), (1, .int v1), (2, .int v2)] rfl (fun K C R hKl hnL => ?_)
  have hN := nl_of hnL
  subst hKl
  refine Y_end h ?_
  unfold M_X1_wouldRoll
  refine x_aload_n C 0 0 dX1_wouldRoll_0 rfl ?_
  refine x_aload_n C 1 0 dX1_wouldRoll_1 rfl ?_
  refine x_iload_n C 2 2 dX1_wouldRoll_2 rfl ?_
  refine Y_bnd1 (fun r3 h3 => ?_)
  refine x_callVl C 3 [.int v2] [.ref (zA (Zc V) 28)] rfl tw_677 mv_X1_setOf (Nat.le_of_ble_eq_true rfl) (Nat.le_of_ble_eq_true rfl) (Nat.le_of_ble_eq_true rfl) (Nat.le_of_ble_eq_true rfl) (kc_28 V _) rfl dX1_wouldRoll_3 (c_X1_setOf V _ _ _ h3) ?_
  refine x_aload_n C 6 0 dX1_wouldRoll_6 rfl ?_
  refine x_iload_n C 7 2 dX1_wouldRoll_7 rfl ?_
  refine Y_bnd1 (fun r8 h8 => ?_)
  refine x_callVi C 8 [.int v2] [.long r3, .ref (zA (Zc V) 28)] rfl tw_703 mv_X1_knownOf (Nat.le_of_ble_eq_true rfl) (Nat.le_of_ble_eq_true rfl) (Nat.le_of_ble_eq_true rfl) (Nat.le_of_ble_eq_true rfl) (kc_28 V _) rfl dX1_wouldRoll_8 (c_X1_knownOf V _ _ _ h8) ?_
  refine x_aload_n C 11 0 dX1_wouldRoll_11 rfl ?_
  refine fgc_X1_31 C 12 dX1_wouldRoll_12 ?_
  refine Y_bnd2 (fun r15 s_15 h15 => ?_)
  refine x_callVi C 15 [.long r3, .int r8, .ref (zA (Zc V) 35)] [] rfl tw_707 mv_X1_layLog (Nat.le_of_ble_eq_true rfl) (Nat.le_of_ble_eq_true rfl) (Nat.le_of_ble_eq_true rfl) (Nat.le_of_ble_eq_true rfl) (kc_28 V _) rfl dX1_wouldRoll_15 (c_X1_layLog V _ _ _ _ _ _ (Nat.le_of_ble_eq_true rfl) (kc_35 V) h15) ?_
  refine x_istore_n C 18 (L' := [(3, .int r15), (0, .ref (zA (Zc V) 28)), (1, .int v1), (2, .int v2)]) dX1_wouldRoll_18 rfl (hN _ (Nat.le_of_ble_eq_true rfl)) rfl ?_
  refine x_aload_n C 19 1 dX1_wouldRoll_19 rfl ?_
  refine x_aload_n C 20 1 dX1_wouldRoll_20 rfl ?_
  refine x_iload_n C 21 2 dX1_wouldRoll_21 rfl ?_
  refine Y_bnd1 (fun r22 h22 => ?_)
  refine x_callVl C 22 [.int v1] [.ref (zA (Zc V) 28)] rfl tw_677 mv_X1_setOf (Nat.le_of_ble_eq_true rfl) (Nat.le_of_ble_eq_true rfl) (Nat.le_of_ble_eq_true rfl) (Nat.le_of_ble_eq_true rfl) (kc_28 V _) rfl dX1_wouldRoll_22 (c_X1_setOf V _ _ _ h22) ?_
  refine x_aload_n C 25 1 dX1_wouldRoll_25 rfl ?_
  refine x_iload_n C 26 3 dX1_wouldRoll_26 rfl ?_
  refine Y_bnd1 (fun r27 h27 => ?_)
  refine x_callVl C 27 [.int v2] [.long r22, .ref (zA (Zc V) 28)] rfl tw_677 mv_X1_setOf (Nat.le_of_ble_eq_true rfl) (Nat.le_of_ble_eq_true rfl) (Nat.le_of_ble_eq_true rfl) (Nat.le_of_ble_eq_true rfl) (kc_28 V _) rfl dX1_wouldRoll_27 (c_X1_setOf V _ _ _ h27) ?_
  refine x_lor C 30 dX1_wouldRoll_30 ?_
  refine x_aload_n C 31 1 dX1_wouldRoll_31 rfl ?_
  refine x_iload_n C 32 2 dX1_wouldRoll_32 rfl ?_
  refine Y_bnd1 (fun r33 h33 => ?_)
  refine x_callVi C 33 [.int v1] [.long (r22 ||| r27), .ref (zA (Zc V) 28)] rfl tw_703 mv_X1_knownOf (Nat.le_of_ble_eq_true rfl) (Nat.le_of_ble_eq_true rfl) (Nat.le_of_ble_eq_true rfl) (Nat.le_of_ble_eq_true rfl) (kc_28 V _) rfl dX1_wouldRoll_33 (c_X1_knownOf V _ _ _ h33) ?_
  refine x_aload_n C 36 1 dX1_wouldRoll_36 rfl ?_
  refine x_iload_n C 37 3 dX1_wouldRoll_37 rfl ?_
  refine Y_bnd1 (fun r38 h38 => ?_)
  refine x_callVi C 38 [.int v2] [.int r33, .long (r22 ||| r27), .ref (zA (Zc V) 28)] rfl tw_703 mv_X1_knownOf (Nat.le_of_ble_eq_true rfl) (Nat.le_of_ble_eq_true rfl) (Nat.le_of_ble_eq_true rfl) (Nat.le_of_ble_eq_true rfl) (kc_28 V _) rfl dX1_wouldRoll_38 (c_X1_knownOf V _ _ _ h38) ?_
  refine x_mmax C 41 tw_698 tw_470 tw_49 tw_471 (Nat.le_of_ble_eq_true rfl) (Nat.le_of_ble_eq_true rfl) dX1_wouldRoll_41 ?_
  refine x_aload_n C 44 1 dX1_wouldRoll_44 rfl ?_
  refine fgc_X1_34 C 45 dX1_wouldRoll_45 ?_
  refine Y_bnd2 (fun r48 s_48 h48 => ?_)
  refine x_callVi C 48 [.long (r22 ||| r27), .int (if r33 < r38 then r38 else r33), .ref (zA (Zc V) 36)] [] rfl tw_707 mv_X1_layLog (Nat.le_of_ble_eq_true rfl) (Nat.le_of_ble_eq_true rfl) (Nat.le_of_ble_eq_true rfl) (Nat.le_of_ble_eq_true rfl) (kc_28 V _) rfl dX1_wouldRoll_48 (c_X1_layLog V _ _ _ _ _ _ (Nat.le_of_ble_eq_true rfl) (kc_36 V) h48) ?_
  refine x_istore C 51 (L' := [(4, .int r48), (3, .int r15), (0, .ref (zA (Zc V) 28)), (1, .int v1), (2, .int v2)]) dX1_wouldRoll_51 (hN _ (Nat.le_of_ble_eq_true rfl)) rfl ?_
  refine x_iload_n C 53 1 dX1_wouldRoll_53 rfl ?_
  refine x_aload_n C 54 2 dX1_wouldRoll_54 rfl ?_
  refine fgc_X1_31 C 55 dX1_wouldRoll_55 ?_
  refine x_iload_n C 58 1 dX1_wouldRoll_58 rfl ?_
  refine x_aload_n C 59 2 dX1_wouldRoll_59 rfl ?_
  refine fgc_X1_34 C 60 dX1_wouldRoll_60 ?_
  refine x_iload C 63 0 dX1_wouldRoll_63 rfl ?_
  refine Y_bnd1 (fun r65 h65 => ?_)
  refine x_callSi C 65 [.ref (zA (Zc V) 35), .int r15, .ref (zA (Zc V) 36), .int r48] [.int r15] rfl tw_821 ms_X1_alikeFromStart (Nat.le_of_ble_eq_true rfl) (Nat.le_of_ble_eq_true rfl) (Nat.le_of_ble_eq_true rfl) dX1_wouldRoll_65 (c_X1_alikeFromStart V _ _ _ _ (Nat.le_of_ble_eq_true rfl) (kc_35 V) _ _ _ (Nat.le_of_ble_eq_true rfl) (kc_36 V) _ h65) ?_
  refine x_isub C 68 dX1_wouldRoll_68 ?_
  exact x_iret2 C R 69 dX1_wouldRoll_69
def M_X1_latelyClosed (σ : Wd) (v1 : Int32) : Option Int32 :=
  chk (ib (5 : Int32) 96) (if 0 ≤ (lg_cmp v1.toInt64 (gL σ 29 (ix (5 : Int32)))) then (some (-2 : Int32)) else (chk (ib ((36 : Int32) + v1) 96) (some ((gL σ 29 (ix ((36 : Int32) + v1))).toInt32))))
set_option maxRecDepth 100000 in
set_option maxHeartbeats 4000000 in
theorem c_X1_latelyClosed (V : Ct_V) (l : Launch) (σ : Wd) (v1 : Int32) {r : Int32} (h : M_X1_latelyClosed σ v1 = some r) : Ct l (Zc V) yX1_latelyClosed cX1_latelyClosed 2 (some .int) 0 0 [.ref (zA (Zc V) 28), .int v1] σ (some (.int r)) σ := by
  refine Ct_intro (own := RX1) zc_ok (by decide +kernel) rfl (Nat.le_of_ble_eq_true rfl) [(0, .ref (zA (Zc V) 28)), (1, .int v1)] rfl (fun K C R hKl hnL => ?_)
  have hN := nl_of hnL
  subst hKl
  refine Y_end h ?_
  unfold M_X1_latelyClosed
  refine x_iload_n C 0 1 dX1_latelyClosed_0 rfl ?_
  refine x_i2l C 1 dX1_latelyClosed_1 ?_
  refine x_aload_n C 2 0 dX1_latelyClosed_2 rfl ?_
  refine fgc_X1_11 C 3 dX1_latelyClosed_3 ?_
  refine x_iconst C 6 dX1_latelyClosed_6 ki_5 ?_
  refine x_lald C 7 (Nat.le_of_ble_eq_true rfl) (kc_29 V _) dX1_latelyClosed_7 (fun _ => ?_)
  refine x_lcmp C 8 dX1_latelyClosed_8 ?_
  refine x_if_ge C 9 25 dX1_latelyClosed_9 (by decide) (fun _ => ?_) (fun _ => ?_)
  · refine x_bipush C 25 dX1_latelyClosed_25 kb_m2 ?_
    exact x_iret1 C R 27 dX1_latelyClosed_27
  · refine x_aload_n C 12 0 dX1_latelyClosed_12 rfl ?_
    refine fgc_X1_11 C 13 dX1_latelyClosed_13 ?_
    refine x_bipush C 16 dX1_latelyClosed_16 kb_36 ?_
    refine x_iload_n C 18 1 dX1_latelyClosed_18 rfl ?_
    refine x_iadd C 19 dX1_latelyClosed_19 ?_
    refine x_lald C 20 (Nat.le_of_ble_eq_true rfl) (kc_29 V _) dX1_latelyClosed_20 (fun _ => ?_)
    refine x_l2i C 21 dX1_latelyClosed_21 ?_
    refine x_goto C 22 27 dX1_latelyClosed_22 (by decide) ?_
    exact x_iret1 C R 27 dX1_latelyClosed_27
def M_X1_setPrimary (σ : Wd) (v1 : Int32) : Option Wd :=
  chk (ib (1 : Int32) 96) (lt (uL σ 29 (ix (1 : Int32)) v1.toInt64) fun s_7 => some s_7)
set_option maxRecDepth 100000 in
set_option maxHeartbeats 4000000 in
theorem c_X1_setPrimary (V : Ct_V) (l : Launch) (σ : Wd) (v1 : Int32) {σ2 : Wd} (h : M_X1_setPrimary σ v1 = some σ2) : Ct l (Zc V) yX1_setPrimary cX1_setPrimary 2 none 0 0 [.ref (zA (Zc V) 28), .int v1] σ none σ2 := by
  refine Ct_intro (own := RX1) zc_ok (by decide +kernel) rfl (Nat.le_of_ble_eq_true rfl) [(0, .ref (zA (Zc V) 28)), (1, .int v1)] rfl (fun K C R hKl hnL => ?_)
  have hN := nl_of hnL
  subst hKl
  refine Y_end h ?_
  unfold M_X1_setPrimary
  refine x_aload_n C 0 0 dX1_setPrimary_0 rfl ?_
  refine fgc_X1_11 C 1 dX1_setPrimary_1 ?_
  refine x_iconst C 4 dX1_setPrimary_4 ki_1 ?_
  refine x_iload_n C 5 1 dX1_setPrimary_5 rfl ?_
  refine x_i2l C 6 dX1_setPrimary_6 ?_
  refine x_last C 7 (Nat.le_of_ble_eq_true rfl) (kc_29 V) dX1_setPrimary_7 (fun _ s_7 => ?_)
  exact x_vret C R 8 dX1_setPrimary_8
def M_X1_addChance (σ : Wd) : Option Wd :=
  chk (ib (4 : Int32) 96) (chk (ib (4 : Int32) 96) (lt (uL σ 29 (ix (4 : Int32)) ((gL σ 29 (ix (4 : Int32))) + (1 : Int64))) fun s_9 => some s_9))
set_option maxRecDepth 100000 in
set_option maxHeartbeats 4000000 in
theorem c_X1_addChance (V : Ct_V) (l : Launch) (σ : Wd) {σ2 : Wd} (h : M_X1_addChance σ = some σ2) : Ct l (Zc V) yX1_addChance cX1_addChance 1 none 0 0 [.ref (zA (Zc V) 28)] σ none σ2 := by
  refine Ct_intro (own := RX1) zc_ok (by decide +kernel) rfl (Nat.le_of_ble_eq_true rfl) [(0, .ref (zA (Zc V) 28))] rfl (fun K C R hKl hnL => ?_)
  have hN := nl_of hnL
  subst hKl
  refine Y_end h ?_
  unfold M_X1_addChance
  refine x_aload_n C 0 0 dX1_addChance_0 rfl ?_
  refine fgc_X1_11 C 1 dX1_addChance_1 ?_
  refine x_iconst C 4 dX1_addChance_4 ki_4 ?_
  refine x_dup2 C 5 dX1_addChance_5 rfl rfl ?_
  refine x_lald C 6 (Nat.le_of_ble_eq_true rfl) (kc_29 V _) dX1_addChance_6 (fun _ => ?_)
  refine x_lconst C 7 dX1_addChance_7 kl_1 ?_
  refine x_ladd C 8 dX1_addChance_8 ?_
  refine x_last C 9 (Nat.le_of_ble_eq_true rfl) (kc_29 V) dX1_addChance_9 (fun _ s_9 => ?_)
  exact x_vret C R 10 dX1_addChance_10
def M_X1_setPromises (σ : Wd) (v1 : Int32) (v2 : Int32) : Option Wd :=
  chk (ib ((44 : Int32) + v1) 96) (lt (uL σ 29 (ix ((44 : Int32) + v1)) v2.toInt64) fun s_10 => some s_10)
set_option maxRecDepth 100000 in
set_option maxHeartbeats 4000000 in
theorem c_X1_setPromises (V : Ct_V) (l : Launch) (σ : Wd) (v1 : Int32) (v2 : Int32) {σ2 : Wd} (h : M_X1_setPromises σ v1 v2 = some σ2) : Ct l (Zc V) yX1_setPromises cX1_setPromises 3 none 0 0 [.ref (zA (Zc V) 28), .int v1, .int v2] σ none σ2 := by
  refine Ct_intro (own := RX1) zc_ok (by decide +kernel) rfl (Nat.le_of_ble_eq_true rfl) [(0, .ref (zA (Zc V) 28)), (1, .int v1), (2, .int v2)] rfl (fun K C R hKl hnL => ?_)
  have hN := nl_of hnL
  subst hKl
  refine Y_end h ?_
  unfold M_X1_setPromises
  refine x_aload_n C 0 0 dX1_setPromises_0 rfl ?_
  refine fgc_X1_11 C 1 dX1_setPromises_1 ?_
  refine x_bipush C 4 dX1_setPromises_4 kb_44 ?_
  refine x_iload_n C 6 1 dX1_setPromises_6 rfl ?_
  refine x_iadd C 7 dX1_setPromises_7 ?_
  refine x_iload_n C 8 2 dX1_setPromises_8 rfl ?_
  refine x_i2l C 9 dX1_setPromises_9 ?_
  refine x_last C 10 (Nat.le_of_ble_eq_true rfl) (kc_29 V) dX1_setPromises_10 (fun _ s_10 => ?_)
  exact x_vret C R 11 dX1_setPromises_11
def M_X1_refuse (σ : Wd) (v1 : Int32) : Option Wd :=
  chk (ib ((48 : Int32) + v1) 96) (chk (ib ((48 : Int32) + v1) 96) (lt (uL σ 29 (ix ((48 : Int32) + v1)) ((gL σ 29 (ix ((48 : Int32) + v1))) + (1 : Int64))) fun s_12 => some s_12))
set_option maxRecDepth 100000 in
set_option maxHeartbeats 4000000 in
theorem c_X1_refuse (V : Ct_V) (l : Launch) (σ : Wd) (v1 : Int32) {σ2 : Wd} (h : M_X1_refuse σ v1 = some σ2) : Ct l (Zc V) yX1_refuse cX1_refuse 2 none 0 0 [.ref (zA (Zc V) 28), .int v1] σ none σ2 := by
  refine Ct_intro (own := RX1) zc_ok (by decide +kernel) rfl (Nat.le_of_ble_eq_true rfl) [(0, .ref (zA (Zc V) 28)), (1, .int v1)] rfl (fun K C R hKl hnL => ?_)
  have hN := nl_of hnL
  subst hKl
  refine Y_end h ?_
  unfold M_X1_refuse
  refine x_aload_n C 0 0 dX1_refuse_0 rfl ?_
  refine fgc_X1_11 C 1 dX1_refuse_1 ?_
  refine x_bipush C 4 dX1_refuse_4 kb_48 ?_
  refine x_iload_n C 6 1 dX1_refuse_6 rfl ?_
  refine x_iadd C 7 dX1_refuse_7 ?_
  refine x_dup2 C 8 dX1_refuse_8 rfl rfl ?_
  refine x_lald C 9 (Nat.le_of_ble_eq_true rfl) (kc_29 V _) dX1_refuse_9 (fun _ => ?_)
  refine x_lconst C 10 dX1_refuse_10 kl_1 ?_
  refine x_ladd C 11 dX1_refuse_11 ?_
  refine x_last C 12 (Nat.le_of_ble_eq_true rfl) (kc_29 V) dX1_refuse_12 (fun _ s_12 => ?_)
  exact x_vret C R 13 dX1_refuse_13
def M_X1_breaks_L22 (σ : Wd) (v1 : Int32) (v2 : Int32) (v4 : Int32) (v5 : Int32) : Option ((Int32) ⊕ ((Unit) ⊕ Int32)) :=
  bnd1 (M_X1_copies σ) fun r25 => if r25 ≤ v5 then (some (.inr (.inl ()))) else (bnd1 (M_X1_vectorOf σ v2 v5) fun r35 => bnd1 (M_X1_sessionVector σ v4 v1 v5) fun r44 => if r44 ≤ r35 then (lt (v5 + (1 : Int32)) fun v5_52 => some (.inl v5_52)) else (some (.inr (.inr (1 : Int32)))))
def M_X1_breaks (σ : Wd) (v1 : Int32) (v2 : Int32) (v3 : Int32) (v4 : Int32) : Option Int32 :=
  chk (ib ((44 : Int32) + v1) 96) (if (lg_cmp ((gL σ 29 (ix ((44 : Int32) + v1))) &&& v3.toInt64) (0 : Int64)) ≠ 0 then (bnd1 (iter (fun s : Int32 => M_X1_breaks_L22 σ v1 v2 v4 s) FU (0 : Int32)) (sx (un0 (some (0 : Int32))) (fun q => some q))) else (some (0 : Int32)))
set_option maxRecDepth 100000 in
set_option maxHeartbeats 4000000 in
theorem c_X1_breaks (V : Ct_V) (l : Launch) (σ : Wd) (v1 : Int32) (v2 : Int32) (v3 : Int32) (v4 : Int32) {r : Int32} (h : M_X1_breaks σ v1 v2 v3 v4 = some r) : Ct l (Zc V) yX1_breaks cX1_breaks 6 (some .boolean) 3 66 [.ref (zA (Zc V) 28), .int v1, .int v2, .int v3, .int v4] σ (some (.int r)) σ := by
  refine Ct_intro (own := RX1) zc_ok (by decide +kernel) rfl (Nat.le_of_ble_eq_true rfl) [(0, .ref (zA (Zc V) 28)), (1, .int v1), (2, .int v2), (3, .int v3), (4, .int v4)] rfl (fun K C R hKl hnL => ?_)
  have hN := nl_of hnL
  subst hKl
  refine Y_end h ?_
  unfold M_X1_breaks
  refine x_aload_n C 0 0 dX1_breaks_0 rfl ?_
  refine fgc_X1_11 C 1 dX1_breaks_1 ?_
  refine x_bipush C 4 dX1_breaks_4 kb_44 ?_
  refine x_iload_n C 6 1 dX1_breaks_6 rfl ?_
  refine x_iadd C 7 dX1_breaks_7 ?_
  refine x_lald C 8 (Nat.le_of_ble_eq_true rfl) (kc_29 V _) dX1_breaks_8 (fun _ => ?_)
  refine x_iload_n C 9 3 dX1_breaks_9 rfl ?_
  refine x_i2l C 10 dX1_breaks_10 ?_
  refine x_land C 11 dX1_breaks_11 ?_
  refine x_lconst C 12 dX1_breaks_12 kl_0 ?_
  refine x_lcmp C 13 dX1_breaks_13 ?_
  refine x_if_ne C 14 19 dX1_breaks_14 (by decide) (fun _ => ?_) (fun _ => ?_)
  · refine x_iconst C 19 dX1_breaks_19 ki_0 ?_
    refine x_istore C 20 (L' := [(5, .int (0 : Int32)), (0, .ref (zA (Zc V) 28)), (1, .int v1), (2, .int v2), (3, .int v3), (4, .int v4)]) dX1_breaks_20 (hN _ (Nat.le_of_ble_eq_true rfl)) rfl ?_
    refine Y_sub [1, 2, 3, 5, 0] rfl ?_
    refine x_loop 22 (fun s : Int32 => σ) (fun s : Int32 => [(0, .ref (zA (Zc V) 28)), (1, .int v1), (2, .int v2), (4, .int v4), (5, .int s)]) (fun E22 hb22 hx22 s => ?_) FU (0 : Int32)
    obtain ⟨v5_22, rfl⟩ : ∃ z, z = s := ⟨s, rfl⟩
    show Y K (Zc V) (M_X1_breaks_L22 σ v1 v2 v4 v5_22) E22 σ 22 [(0, .ref (zA (Zc V) 28)), (1, .int v1), (2, .int v2), (4, .int v4), (5, .int v5_22)] []
    unfold M_X1_breaks_L22
    refine x_iload C 22 4 dX1_breaks_22 rfl ?_
    refine x_aload_n C 24 0 dX1_breaks_24 rfl ?_
    refine Y_bnd1 (fun r25 h25 => ?_)
    refine x_callVi C 25 [] [.int v5_22] rfl tw_661 mv_X1_copies (Nat.le_of_ble_eq_true rfl) (Nat.le_of_ble_eq_true rfl) (Nat.le_of_ble_eq_true rfl) (Nat.le_of_ble_eq_true rfl) (kc_28 V _) rfl dX1_breaks_25 (c_X1_copies V _ _  h25) ?_
    refine x_icmp_ge C 28 58 dX1_breaks_28 (by decide) (fun _ => ?_) (fun _ => ?_)
    · refine x_exl0 hx22 ?_
      refine x_iconst C 58 dX1_breaks_58 ki_0 ?_
      exact x_zret1 C R 59 (zb_nar (r := (0 : Int32)) (Or.inl rfl)) dX1_breaks_59
    · refine x_aload_n C 31 0 dX1_breaks_31 rfl ?_
      refine x_iload_n C 32 2 dX1_breaks_32 rfl ?_
      refine x_iload C 33 4 dX1_breaks_33 rfl ?_
      refine Y_bnd1 (fun r35 h35 => ?_)
      refine x_callVi C 35 [.int v2, .int v5_22] [] rfl tw_665 mv_X1_vectorOf (Nat.le_of_ble_eq_true rfl) (Nat.le_of_ble_eq_true rfl) (Nat.le_of_ble_eq_true rfl) (Nat.le_of_ble_eq_true rfl) (kc_28 V _) rfl dX1_breaks_35 (c_X1_vectorOf V _ _ _ _ h35) ?_
      refine x_aload_n C 38 0 dX1_breaks_38 rfl ?_
      refine x_iload C 39 3 dX1_breaks_39 rfl ?_
      refine x_iload_n C 41 1 dX1_breaks_41 rfl ?_
      refine x_iload C 42 4 dX1_breaks_42 rfl ?_
      refine Y_bnd1 (fun r44 h44 => ?_)
      refine x_callVi C 44 [.int v4, .int v1, .int v5_22] [.int r35] rfl tw_681 mv_X1_sessionVector (Nat.le_of_ble_eq_true rfl) (Nat.le_of_ble_eq_true rfl) (Nat.le_of_ble_eq_true rfl) (Nat.le_of_ble_eq_true rfl) (kc_28 V _) rfl dX1_breaks_44 (c_X1_sessionVector V _ _ _ _ _ h44) ?_
      refine x_icmp_ge C 47 52 dX1_breaks_47 (by decide) (fun _ => ?_) (fun _ => ?_)
      · refine x_iinct C 52 4 (1 : Int32) (fun v5_52 => [(5, .int v5_52), (0, .ref (zA (Zc V) 28)), (1, .int v1), (2, .int v2), (4, .int v4)]) dX1_breaks_52 rfl ki_1 (hN _ (Nat.le_of_ble_eq_true rfl)) (fun _ => rfl) (fun v5_52 => ?_)
        refine x_goto C 55 22 dX1_breaks_55 (by decide) ?_
        refine Y_sub [1, 2, 3, 4, 0] rfl ?_
        exact x_back v5_52 (hb22 v5_52)
      · refine x_iconst C 50 dX1_breaks_50 ki_1 ?_
        refine x_exr hx22 _ ?_
        exact x_zret1 C R 51 (zb_nar (r := (1 : Int32)) (Or.inr rfl)) dX1_breaks_51
  · refine x_iconst C 17 dX1_breaks_17 ki_0 ?_
    exact x_zret1 C R 18 (zb_nar (r := (0 : Int32)) (Or.inl rfl)) dX1_breaks_18
def M_X1_refusesAsk (σ : Wd) (v1 : Int32) (v2 : Int32) : Option Int32 :=
  bnd1 (M_X1_breaks σ v1 v2 (1 : Int32) (76 : Int32)) fun r6 => if r6 ≠ 0 then (some (1 : Int32)) else (bnd1 (M_X1_breaks σ v1 v2 (2 : Int32) (56 : Int32)) fun r18 => if r18 = 0 then (some (0 : Int32)) else (some (1 : Int32)))
set_option maxRecDepth 100000 in
set_option maxHeartbeats 4000000 in
theorem c_X1_refusesAsk (V : Ct_V) (l : Launch) (σ : Wd) (v1 : Int32) (v2 : Int32) {r : Int32} (h : M_X1_refusesAsk σ v1 v2 = some r) : Ct l (Zc V) yX1_refusesAsk cX1_refusesAsk 3 (some .boolean) 4 91 [.ref (zA (Zc V) 28), .int v1, .int v2] σ (some (.int r)) σ := by
  refine Ct_intro (own := RX1) zc_ok (by decide +kernel) rfl (Nat.le_of_ble_eq_true rfl) [(0, .ref (zA (Zc V) 28)), (1, .int v1), (2, .int v2)] rfl (fun K C R hKl hnL => ?_)
  have hN := nl_of hnL
  subst hKl
  refine Y_end h ?_
  unfold M_X1_refusesAsk
  refine x_aload_n C 0 0 dX1_refusesAsk_0 rfl ?_
  refine x_iload_n C 1 1 dX1_refusesAsk_1 rfl ?_
  refine x_iload_n C 2 2 dX1_refusesAsk_2 rfl ?_
  refine x_iconst C 3 dX1_refusesAsk_3 ki_1 ?_
  refine x_bipush C 4 dX1_refusesAsk_4 kb_76 ?_
  refine Y_bnd1 (fun r6 h6 => ?_)
  refine x_callVi C 6 [.int v1, .int v2, .int (1 : Int32), .int (76 : Int32)] [] rfl tw_657 mv_X1_breaks (Nat.le_of_ble_eq_true rfl) (Nat.le_of_ble_eq_true rfl) (Nat.le_of_ble_eq_true rfl) (Nat.le_of_ble_eq_true rfl) (kc_28 V _) rfl dX1_refusesAsk_6 (c_X1_breaks V _ _ _ _ _ _ h6) ?_
  refine x_if_ne C 9 24 dX1_refusesAsk_9 (by decide) (fun _ => ?_) (fun _ => ?_)
  · refine x_iconst C 24 dX1_refusesAsk_24 ki_1 ?_
    refine x_goto C 25 29 dX1_refusesAsk_25 (by decide) ?_
    exact x_zret1 C R 29 (zb_nar (r := (1 : Int32)) (Or.inr rfl)) dX1_refusesAsk_29
  · refine x_aload_n C 12 0 dX1_refusesAsk_12 rfl ?_
    refine x_iload_n C 13 1 dX1_refusesAsk_13 rfl ?_
    refine x_iload_n C 14 2 dX1_refusesAsk_14 rfl ?_
    refine x_iconst C 15 dX1_refusesAsk_15 ki_2 ?_
    refine x_bipush C 16 dX1_refusesAsk_16 kb_56 ?_
    refine Y_bnd1 (fun r18 h18 => ?_)
    refine x_callVi C 18 [.int v1, .int v2, .int (2 : Int32), .int (56 : Int32)] [] rfl tw_657 mv_X1_breaks (Nat.le_of_ble_eq_true rfl) (Nat.le_of_ble_eq_true rfl) (Nat.le_of_ble_eq_true rfl) (Nat.le_of_ble_eq_true rfl) (kc_28 V _) rfl dX1_refusesAsk_18 (c_X1_breaks V _ _ _ _ _ _ h18) ?_
    refine x_if_eq C 21 28 dX1_refusesAsk_21 (by decide) (fun _ => ?_) (fun _ => ?_)
    · refine x_iconst C 28 dX1_refusesAsk_28 ki_0 ?_
      exact x_zret1 C R 29 (zb_nar (r := (0 : Int32)) (Or.inl rfl)) dX1_refusesAsk_29
    · refine x_iconst C 24 dX1_refusesAsk_24 ki_1 ?_
      refine x_goto C 25 29 dX1_refusesAsk_25 (by decide) ?_
      exact x_zret1 C R 29 (zb_nar (r := (1 : Int32)) (Or.inr rfl)) dX1_refusesAsk_29
def M_X1_refusesMake (σ : Wd) (v1 : Int32) (v2 : Int32) : Option Int32 :=
  bnd1 (M_X1_breaks σ v1 v2 (4 : Int32) (56 : Int32)) fun r6 => if r6 ≠ 0 then (some (1 : Int32)) else (bnd1 (M_X1_breaks σ v1 v2 (8 : Int32) (76 : Int32)) fun r19 => if r19 = 0 then (some (0 : Int32)) else (some (1 : Int32)))
set_option maxRecDepth 100000 in
set_option maxHeartbeats 4000000 in
theorem c_X1_refusesMake (V : Ct_V) (l : Launch) (σ : Wd) (v1 : Int32) (v2 : Int32) {r : Int32} (h : M_X1_refusesMake σ v1 v2 = some r) : Ct l (Zc V) yX1_refusesMake cX1_refusesMake 3 (some .boolean) 4 91 [.ref (zA (Zc V) 28), .int v1, .int v2] σ (some (.int r)) σ := by
  refine Ct_intro (own := RX1) zc_ok (by decide +kernel) rfl (Nat.le_of_ble_eq_true rfl) [(0, .ref (zA (Zc V) 28)), (1, .int v1), (2, .int v2)] rfl (fun K C R hKl hnL => ?_)
  have hN := nl_of hnL
  subst hKl
  refine Y_end h ?_
  unfold M_X1_refusesMake
  refine x_aload_n C 0 0 dX1_refusesMake_0 rfl ?_
  refine x_iload_n C 1 1 dX1_refusesMake_1 rfl ?_
  refine x_iload_n C 2 2 dX1_refusesMake_2 rfl ?_
  refine x_iconst C 3 dX1_refusesMake_3 ki_4 ?_
  refine x_bipush C 4 dX1_refusesMake_4 kb_56 ?_
  refine Y_bnd1 (fun r6 h6 => ?_)
  refine x_callVi C 6 [.int v1, .int v2, .int (4 : Int32), .int (56 : Int32)] [] rfl tw_657 mv_X1_breaks (Nat.le_of_ble_eq_true rfl) (Nat.le_of_ble_eq_true rfl) (Nat.le_of_ble_eq_true rfl) (Nat.le_of_ble_eq_true rfl) (kc_28 V _) rfl dX1_refusesMake_6 (c_X1_breaks V _ _ _ _ _ _ h6) ?_
  refine x_if_ne C 9 25 dX1_refusesMake_9 (by decide) (fun _ => ?_) (fun _ => ?_)
  · refine x_iconst C 25 dX1_refusesMake_25 ki_1 ?_
    refine x_goto C 26 30 dX1_refusesMake_26 (by decide) ?_
    exact x_zret1 C R 30 (zb_nar (r := (1 : Int32)) (Or.inr rfl)) dX1_refusesMake_30
  · refine x_aload_n C 12 0 dX1_refusesMake_12 rfl ?_
    refine x_iload_n C 13 1 dX1_refusesMake_13 rfl ?_
    refine x_iload_n C 14 2 dX1_refusesMake_14 rfl ?_
    refine x_bipush C 15 dX1_refusesMake_15 kb_8 ?_
    refine x_bipush C 17 dX1_refusesMake_17 kb_76 ?_
    refine Y_bnd1 (fun r19 h19 => ?_)
    refine x_callVi C 19 [.int v1, .int v2, .int (8 : Int32), .int (76 : Int32)] [] rfl tw_657 mv_X1_breaks (Nat.le_of_ble_eq_true rfl) (Nat.le_of_ble_eq_true rfl) (Nat.le_of_ble_eq_true rfl) (Nat.le_of_ble_eq_true rfl) (kc_28 V _) rfl dX1_refusesMake_19 (c_X1_breaks V _ _ _ _ _ _ h19) ?_
    refine x_if_eq C 22 29 dX1_refusesMake_22 (by decide) (fun _ => ?_) (fun _ => ?_)
    · refine x_iconst C 29 dX1_refusesMake_29 ki_0 ?_
      exact x_zret1 C R 30 (zb_nar (r := (0 : Int32)) (Or.inl rfl)) dX1_refusesMake_30
    · refine x_iconst C 25 dX1_refusesMake_25 ki_1 ?_
      refine x_goto C 26 30 dX1_refusesMake_26 (by decide) ?_
      exact x_zret1 C R 30 (zb_nar (r := (1 : Int32)) (Or.inr rfl)) dX1_refusesMake_30
def M_X1_tellTo_L14 (v1 : Int32) (v2 : Int32) (v4 : Int32) (σ : Wd) : Option ((Int32 × Wd) ⊕ (Wd)) :=
  bnd1 (M_X1_copies σ) fun r17 => if r17 ≤ v4 then (some (.inr σ)) else (lt (((56 : Int32) + (v1 * (5 : Int32))) + v4) fun v5_32 => chk (ib v5_32 96) (bnd1 (M_X1_vectorOf σ v2 v4) fun r51 => chk (ib v5_32 96) (lt (uL σ 29 (ix v5_32) (if r51.toInt64 < (gL σ 29 (ix v5_32)) then (gL σ 29 (ix v5_32)) else r51.toInt64)) fun s_58 => lt (v4 + (1 : Int32)) fun v4_59 => some (.inl (v4_59, s_58)))))
def M_X1_tellTo (σ : Wd) (v1 : Int32) (v2 : Int32) (v3 : Int32) : Option Wd :=
  chk (ib ((52 : Int32) + v1) 96) (lt (uL σ 29 (ix ((52 : Int32) + v1)) v3.toInt64) fun s_10 => bnd1 (iter (fun s : Int32 × Wd => M_X1_tellTo_L14 v1 v2 s.1 s.2) FU ((0 : Int32), s_10)) (un1 fun sx_14 => (some sx_14)))
set_option maxRecDepth 100000 in
set_option maxHeartbeats 4000000 in
theorem c_X1_tellTo (V : Ct_V) (l : Launch) (σ : Wd) (v1 : Int32) (v2 : Int32) (v3 : Int32) {σ2 : Wd} (h : M_X1_tellTo σ v1 v2 v3 = some σ2) : Ct l (Zc V) yX1_tellTo cX1_tellTo 6 none 3 66 [.ref (zA (Zc V) 28), .int v1, .int v2, .int v3] σ none σ2 := by
  refine Ct_intro (own := RX1) zc_ok (by decide +kernel) rfl (Nat.le_of_ble_eq_true rfl) [(0, .ref (zA (Zc V) 28)), (1, .int v1), (2, .int v2), (3, .int v3)] rfl (fun K C R hKl hnL => ?_)
  have hN := nl_of hnL
  subst hKl
  refine Y_end h ?_
  unfold M_X1_tellTo
  refine x_aload_n C 0 0 dX1_tellTo_0 rfl ?_
  refine fgc_X1_11 C 1 dX1_tellTo_1 ?_
  refine x_bipush C 4 dX1_tellTo_4 kb_52 ?_
  refine x_iload_n C 6 1 dX1_tellTo_6 rfl ?_
  refine x_iadd C 7 dX1_tellTo_7 ?_
  refine x_iload_n C 8 3 dX1_tellTo_8 rfl ?_
  refine x_i2l C 9 dX1_tellTo_9 ?_
  refine x_last C 10 (Nat.le_of_ble_eq_true rfl) (kc_29 V) dX1_tellTo_10 (fun _ s_10 => ?_)
  refine x_iconst C 11 dX1_tellTo_11 ki_0 ?_
  refine x_istore C 12 (L' := [(4, .int (0 : Int32)), (0, .ref (zA (Zc V) 28)), (1, .int v1), (2, .int v2), (3, .int v3)]) dX1_tellTo_12 (hN _ (Nat.le_of_ble_eq_true rfl)) rfl ?_
  refine Y_sub [1, 2, 3, 0] rfl ?_
  refine x_loop 14 (fun s : Int32 × Wd => s.2) (fun s : Int32 × Wd => [(0, .ref (zA (Zc V) 28)), (1, .int v1), (2, .int v2), (4, .int s.1)]) (fun E14 hb14 hx14 s => ?_) FU ((0 : Int32), s_10)
  obtain ⟨v4_14, s_14⟩ := s
  show Y K (Zc V) (M_X1_tellTo_L14 v1 v2 v4_14 s_14) E14 s_14 14 [(0, .ref (zA (Zc V) 28)), (1, .int v1), (2, .int v2), (4, .int v4_14)] []
  unfold M_X1_tellTo_L14
  refine x_iload C 14 3 dX1_tellTo_14 rfl ?_
  refine x_aload_n C 16 0 dX1_tellTo_16 rfl ?_
  refine Y_bnd1 (fun r17 h17 => ?_)
  refine x_callVi C 17 [] [.int v4_14] rfl tw_661 mv_X1_copies (Nat.le_of_ble_eq_true rfl) (Nat.le_of_ble_eq_true rfl) (Nat.le_of_ble_eq_true rfl) (Nat.le_of_ble_eq_true rfl) (kc_28 V _) rfl dX1_tellTo_17 (c_X1_copies V _ _  h17) ?_
  refine x_icmp_ge C 20 65 dX1_tellTo_20 (by decide) (fun _ => ?_) (fun _ => ?_)
  · refine x_ex1 hx14 s_14 ?_
    exact x_vret C R 65 dX1_tellTo_65
  · refine x_bipush C 23 dX1_tellTo_23 kb_56 ?_
    refine x_iload_n C 25 1 dX1_tellTo_25 rfl ?_
    refine x_iconst C 26 dX1_tellTo_26 ki_5 ?_
    refine x_imul C 27 dX1_tellTo_27 ?_
    refine x_iadd C 28 dX1_tellTo_28 ?_
    refine x_iload C 29 3 dX1_tellTo_29 rfl ?_
    refine x_iadd C 31 dX1_tellTo_31 ?_
    refine x_istoret C 32 (fun v5_32 => [(5, .int v5_32), (0, .ref (zA (Zc V) 28)), (1, .int v1), (2, .int v2), (4, .int v4_14)]) dX1_tellTo_32 (hN _ (Nat.le_of_ble_eq_true rfl)) (fun _ => rfl) (fun v5_32 => ?_)
    refine x_aload_n C 34 1 dX1_tellTo_34 rfl ?_
    refine fgc_X1_11 C 35 dX1_tellTo_35 ?_
    refine x_iload C 38 0 dX1_tellTo_38 rfl ?_
    refine x_aload_n C 40 1 dX1_tellTo_40 rfl ?_
    refine fgc_X1_11 C 41 dX1_tellTo_41 ?_
    refine x_iload C 44 0 dX1_tellTo_44 rfl ?_
    refine x_lald C 46 (Nat.le_of_ble_eq_true rfl) (kc_29 V _) dX1_tellTo_46 (fun _ => ?_)
    refine x_aload_n C 47 1 dX1_tellTo_47 rfl ?_
    refine x_iload_n C 48 3 dX1_tellTo_48 rfl ?_
    refine x_iload C 49 4 dX1_tellTo_49 rfl ?_
    refine Y_bnd1 (fun r51 h51 => ?_)
    refine x_callVi C 51 [.int v2, .int v4_14] [.long (gL s_14 29 (ix v5_32)), .int v5_32, .ref (zA (Zc V) 29)] rfl tw_665 mv_X1_vectorOf (Nat.le_of_ble_eq_true rfl) (Nat.le_of_ble_eq_true rfl) (Nat.le_of_ble_eq_true rfl) (Nat.le_of_ble_eq_true rfl) (kc_28 V _) rfl dX1_tellTo_51 (c_X1_vectorOf V _ _ _ _ h51) ?_
    refine x_i2l C 54 dX1_tellTo_54 ?_
    refine x_mmaxl C 55 tw_785 tw_786 tw_49 tw_787 (Nat.le_of_ble_eq_true rfl) (Nat.le_of_ble_eq_true rfl) dX1_tellTo_55 ?_
    refine x_last C 58 (Nat.le_of_ble_eq_true rfl) (kc_29 V) dX1_tellTo_58 (fun _ s_58 => ?_)
    refine x_iinct C 59 4 (1 : Int32) (fun v4_59 => [(4, .int v4_59), (5, .int v5_32), (0, .ref (zA (Zc V) 28)), (1, .int v1), (2, .int v2)]) dX1_tellTo_59 rfl ki_1 (hN _ (Nat.le_of_ble_eq_true rfl)) (fun _ => rfl) (fun v4_59 => ?_)
    refine x_goto C 62 14 dX1_tellTo_62 (by decide) ?_
    refine Y_sub [2, 3, 4, 0] rfl ?_
    exact x_back (v4_59, s_58) (hb14 (v4_59, s_58))
def M_X1_areAlike (σ : Wd) (v1 : Int32) (v2 : Int32) : Option Int32 :=
  bnd1 (M_X1_setOf σ v1) fun r2 => bnd1 (M_X1_setOf σ v2) fun r7 => if (lg_cmp r2 r7) ≠ 0 then (some (0 : Int32)) else (bnd1 (M_X1_knownOf σ v1) fun r16 => bnd1 (M_X1_knownOf σ v2) fun r21 => if r16 ≠ r21 then (some (0 : Int32)) else (some (1 : Int32)))
set_option maxRecDepth 100000 in
set_option maxHeartbeats 4000000 in
theorem c_X1_areAlike (V : Ct_V) (l : Launch) (σ : Wd) (v1 : Int32) (v2 : Int32) {r : Int32} (h : M_X1_areAlike σ v1 v2 = some r) : Ct l (Zc V) yX1_areAlike cX1_areAlike 3 (some .boolean) 1 21 [.ref (zA (Zc V) 28), .int v1, .int v2] σ (some (.int r)) σ := by
  refine Ct_intro (own := RX1) zc_ok (by decide +kernel) rfl (Nat.le_of_ble_eq_true rfl) [(0, .ref (zA (Zc V) 28)), (1, .int v1), (2, .int v2)] rfl (fun K C R hKl hnL => ?_)
  have hN := nl_of hnL
  subst hKl
  refine Y_end h ?_
  unfold M_X1_areAlike
  refine x_aload_n C 0 0 dX1_areAlike_0 rfl ?_
  refine x_iload_n C 1 1 dX1_areAlike_1 rfl ?_
  refine Y_bnd1 (fun r2 h2 => ?_)
  refine x_callVl C 2 [.int v1] [] rfl tw_677 mv_X1_setOf (Nat.le_of_ble_eq_true rfl) (Nat.le_of_ble_eq_true rfl) (Nat.le_of_ble_eq_true rfl) (Nat.le_of_ble_eq_true rfl) (kc_28 V _) rfl dX1_areAlike_2 (c_X1_setOf V _ _ _ h2) ?_
  refine x_aload_n C 5 0 dX1_areAlike_5 rfl ?_
  refine x_iload_n C 6 2 dX1_areAlike_6 rfl ?_
  refine Y_bnd1 (fun r7 h7 => ?_)
  refine x_callVl C 7 [.int v2] [.long r2] rfl tw_677 mv_X1_setOf (Nat.le_of_ble_eq_true rfl) (Nat.le_of_ble_eq_true rfl) (Nat.le_of_ble_eq_true rfl) (Nat.le_of_ble_eq_true rfl) (kc_28 V _) rfl dX1_areAlike_7 (c_X1_setOf V _ _ _ h7) ?_
  refine x_lcmp C 10 dX1_areAlike_10 ?_
  refine x_if_ne C 11 31 dX1_areAlike_11 (by decide) (fun _ => ?_) (fun _ => ?_)
  · refine x_iconst C 31 dX1_areAlike_31 ki_0 ?_
    exact x_zret1 C R 32 (zb_nar (r := (0 : Int32)) (Or.inl rfl)) dX1_areAlike_32
  · refine x_aload_n C 14 0 dX1_areAlike_14 rfl ?_
    refine x_iload_n C 15 1 dX1_areAlike_15 rfl ?_
    refine Y_bnd1 (fun r16 h16 => ?_)
    refine x_callVi C 16 [.int v1] [] rfl tw_703 mv_X1_knownOf (Nat.le_of_ble_eq_true rfl) (Nat.le_of_ble_eq_true rfl) (Nat.le_of_ble_eq_true rfl) (Nat.le_of_ble_eq_true rfl) (kc_28 V _) rfl dX1_areAlike_16 (c_X1_knownOf V _ _ _ h16) ?_
    refine x_aload_n C 19 0 dX1_areAlike_19 rfl ?_
    refine x_iload_n C 20 2 dX1_areAlike_20 rfl ?_
    refine Y_bnd1 (fun r21 h21 => ?_)
    refine x_callVi C 21 [.int v2] [.int r16] rfl tw_703 mv_X1_knownOf (Nat.le_of_ble_eq_true rfl) (Nat.le_of_ble_eq_true rfl) (Nat.le_of_ble_eq_true rfl) (Nat.le_of_ble_eq_true rfl) (kc_28 V _) rfl dX1_areAlike_21 (c_X1_knownOf V _ _ _ h21) ?_
    refine x_icmp_ne C 24 31 dX1_areAlike_24 (by decide) (fun _ => ?_) (fun _ => ?_)
    · refine x_iconst C 31 dX1_areAlike_31 ki_0 ?_
      exact x_zret1 C R 32 (zb_nar (r := (0 : Int32)) (Or.inl rfl)) dX1_areAlike_32
    · refine x_iconst C 27 dX1_areAlike_27 ki_1 ?_
      refine x_goto C 28 32 dX1_areAlike_28 (by decide) ?_
      exact x_zret1 C R 32 (zb_nar (r := (1 : Int32)) (Or.inr rfl)) dX1_areAlike_32
def M_X1_allAlike_L2 (σ : Wd) (v1 : Int32) : Option ((Int32) ⊕ ((Unit) ⊕ Int32)) :=
  bnd1 (M_X1_copies σ) fun r4 => if r4 ≤ v1 then (some (.inr (.inl ()))) else (bnd1 (M_X1_areAlike σ (0 : Int32) v1) fun r13 => if r13 ≠ 0 then (lt (v1 + (1 : Int32)) fun v1_21 => some (.inl v1_21)) else (some (.inr (.inr (0 : Int32)))))
def M_X1_allAlike (σ : Wd) : Option Int32 :=
  bnd1 (iter (fun s : Int32 => M_X1_allAlike_L2 σ s) FU (1 : Int32)) (sx (un0 (some (1 : Int32))) (fun q => some q))
set_option maxRecDepth 100000 in
set_option maxHeartbeats 4000000 in
theorem c_X1_allAlike (V : Ct_V) (l : Launch) (σ : Wd) {r : Int32} (h : M_X1_allAlike σ = some r) : Ct l (Zc V) yX1_allAlike cX1_allAlike 2 (some .boolean) 2 43 [.ref (zA (Zc V) 28)] σ (some (.int r)) σ := by
  refine Ct_intro (own := RX1) zc_ok (by decide +kernel) rfl (Nat.le_of_ble_eq_true rfl) [(0, .ref (zA (Zc V) 28))] rfl (fun K C R hKl hnL => ?_)
  have hN := nl_of hnL
  subst hKl
  refine Y_end h ?_
  unfold M_X1_allAlike
  refine x_iconst C 0 dX1_allAlike_0 ki_1 ?_
  refine x_istore_n C 1 (L' := [(1, .int (1 : Int32)), (0, .ref (zA (Zc V) 28))]) dX1_allAlike_1 rfl (hN _ (Nat.le_of_ble_eq_true rfl)) rfl ?_
  refine Y_sub [1, 0] rfl ?_
  refine x_loop 2 (fun s : Int32 => σ) (fun s : Int32 => [(0, .ref (zA (Zc V) 28)), (1, .int s)]) (fun E2 hb2 hx2 s => ?_) FU (1 : Int32)
  obtain ⟨v1_2, rfl⟩ : ∃ z, z = s := ⟨s, rfl⟩
  show Y K (Zc V) (M_X1_allAlike_L2 σ v1_2) E2 σ 2 [(0, .ref (zA (Zc V) 28)), (1, .int v1_2)] []
  unfold M_X1_allAlike_L2
  refine x_iload_n C 2 1 dX1_allAlike_2 rfl ?_
  refine x_aload_n C 3 0 dX1_allAlike_3 rfl ?_
  refine Y_bnd1 (fun r4 h4 => ?_)
  refine x_callVi C 4 [] [.int v1_2] rfl tw_661 mv_X1_copies (Nat.le_of_ble_eq_true rfl) (Nat.le_of_ble_eq_true rfl) (Nat.le_of_ble_eq_true rfl) (Nat.le_of_ble_eq_true rfl) (kc_28 V _) rfl dX1_allAlike_4 (c_X1_copies V _ _  h4) ?_
  refine x_icmp_ge C 7 27 dX1_allAlike_7 (by decide) (fun _ => ?_) (fun _ => ?_)
  · refine x_exl0 hx2 ?_
    refine x_iconst C 27 dX1_allAlike_27 ki_1 ?_
    exact x_zret1 C R 28 (zb_nar (r := (1 : Int32)) (Or.inr rfl)) dX1_allAlike_28
  · refine x_aload_n C 10 0 dX1_allAlike_10 rfl ?_
    refine x_iconst C 11 dX1_allAlike_11 ki_0 ?_
    refine x_iload_n C 12 1 dX1_allAlike_12 rfl ?_
    refine Y_bnd1 (fun r13 h13 => ?_)
    refine x_callVi C 13 [.int (0 : Int32), .int v1_2] [] rfl tw_1134 mv_X1_areAlike (Nat.le_of_ble_eq_true rfl) (Nat.le_of_ble_eq_true rfl) (Nat.le_of_ble_eq_true rfl) (Nat.le_of_ble_eq_true rfl) (kc_28 V _) rfl dX1_allAlike_13 (c_X1_areAlike V _ _ _ _ h13) ?_
    refine x_if_ne C 16 21 dX1_allAlike_16 (by decide) (fun _ => ?_) (fun _ => ?_)
    · refine x_iinct C 21 1 (1 : Int32) (fun v1_21 => [(1, .int v1_21), (0, .ref (zA (Zc V) 28))]) dX1_allAlike_21 rfl ki_1 (hN _ (Nat.le_of_ble_eq_true rfl)) (fun _ => rfl) (fun v1_21 => ?_)
      refine x_goto C 24 2 dX1_allAlike_24 (by decide) ?_
      refine Y_sub [1, 0] rfl ?_
      exact x_back v1_21 (hb2 v1_21)
    · refine x_iconst C 19 dX1_allAlike_19 ki_0 ?_
      refine x_exr hx2 _ ?_
      exact x_zret1 C R 20 (zb_nar (r := (0 : Int32)) (Or.inl rfl)) dX1_allAlike_20
def M_X1_hadByAny_L4 (σ : Wd) (v1 : Int64) (v3 : Int32) : Option ((Int64 × Int32) ⊕ (Int64)) :=
  bnd1 (M_X1_copies σ) fun r6 => if r6 ≤ v3 then (some (.inr v1)) else (bnd1 (M_X1_setOf σ v3) fun r15 => lt (v1 ||| r15) fun v1_19 => lt (v3 + (1 : Int32)) fun v3_20 => some (.inl (v1_19, v3_20)))
def M_X1_hadByAny (σ : Wd) : Option Int64 :=
  bnd1 (iter (fun s : Int64 × Int32 => M_X1_hadByAny_L4 σ s.1 s.2) FU ((0 : Int64), (0 : Int32))) (un1 fun x1_4 => (some x1_4))
set_option maxRecDepth 100000 in
set_option maxHeartbeats 4000000 in
theorem c_X1_hadByAny (V : Ct_V) (l : Launch) (σ : Wd) {r : Int64} (h : M_X1_hadByAny σ = some r) : Ct l (Zc V) yX1_hadByAny cX1_hadByAny 4 (some .long) 1 21 [.ref (zA (Zc V) 28)] σ (some (.long r)) σ := by
  refine Ct_intro (own := RX1) zc_ok (by decide +kernel) rfl (Nat.le_of_ble_eq_true rfl) [(0, .ref (zA (Zc V) 28))] rfl (fun K C R hKl hnL => ?_)
  have hN := nl_of hnL
  subst hKl
  refine Y_end h ?_
  unfold M_X1_hadByAny
  refine x_lconst C 0 dX1_hadByAny_0 kl_0 ?_
  refine x_lstore_n C 1 (L' := [(1, .long (0 : Int64)), (0, .ref (zA (Zc V) 28))]) dX1_hadByAny_1 rfl (hN _ (Nat.le_of_ble_eq_true rfl)) rfl ?_
  refine x_iconst C 2 dX1_hadByAny_2 ki_0 ?_
  refine x_istore_n C 3 (L' := [(3, .int (0 : Int32)), (1, .long (0 : Int64)), (0, .ref (zA (Zc V) 28))]) dX1_hadByAny_3 rfl (hN _ (Nat.le_of_ble_eq_true rfl)) rfl ?_
  refine Y_sub [2, 1, 0] rfl ?_
  refine x_loop 4 (fun s : Int64 × Int32 => σ) (fun s : Int64 × Int32 => [(0, .ref (zA (Zc V) 28)), (1, .long s.1), (3, .int s.2)]) (fun E4 hb4 hx4 s => ?_) FU ((0 : Int64), (0 : Int32))
  obtain ⟨v1_4, v3_4⟩ := s
  show Y K (Zc V) (M_X1_hadByAny_L4 σ v1_4 v3_4) E4 σ 4 [(0, .ref (zA (Zc V) 28)), (1, .long v1_4), (3, .int v3_4)] []
  unfold M_X1_hadByAny_L4
  refine x_iload_n C 4 2 dX1_hadByAny_4 rfl ?_
  refine x_aload_n C 5 0 dX1_hadByAny_5 rfl ?_
  refine Y_bnd1 (fun r6 h6 => ?_)
  refine x_callVi C 6 [] [.int v3_4] rfl tw_661 mv_X1_copies (Nat.le_of_ble_eq_true rfl) (Nat.le_of_ble_eq_true rfl) (Nat.le_of_ble_eq_true rfl) (Nat.le_of_ble_eq_true rfl) (kc_28 V _) rfl dX1_hadByAny_6 (c_X1_copies V _ _  h6) ?_
  refine x_icmp_ge C 9 26 dX1_hadByAny_9 (by decide) (fun _ => ?_) (fun _ => ?_)
  · refine x_ex1 hx4 v1_4 ?_
    refine x_lload_n C 26 1 dX1_hadByAny_26 rfl ?_
    exact x_lret1 C R 27 dX1_hadByAny_27
  · refine x_lload_n C 12 1 dX1_hadByAny_12 rfl ?_
    refine x_aload_n C 13 0 dX1_hadByAny_13 rfl ?_
    refine x_iload_n C 14 2 dX1_hadByAny_14 rfl ?_
    refine Y_bnd1 (fun r15 h15 => ?_)
    refine x_callVl C 15 [.int v3_4] [.long v1_4] rfl tw_677 mv_X1_setOf (Nat.le_of_ble_eq_true rfl) (Nat.le_of_ble_eq_true rfl) (Nat.le_of_ble_eq_true rfl) (Nat.le_of_ble_eq_true rfl) (kc_28 V _) rfl dX1_hadByAny_15 (c_X1_setOf V _ _ _ h15) ?_
    refine x_lor C 18 dX1_hadByAny_18 ?_
    refine x_lstore_nt C 19 (fun v1_19 => [(1, .long v1_19), (0, .ref (zA (Zc V) 28)), (3, .int v3_4)]) dX1_hadByAny_19 rfl (hN _ (Nat.le_of_ble_eq_true rfl)) (fun _ => rfl) (fun v1_19 => ?_)
    refine x_iinct C 20 2 (1 : Int32) (fun v3_20 => [(3, .int v3_20), (1, .long v1_19), (0, .ref (zA (Zc V) 28))]) dX1_hadByAny_20 rfl ki_1 (hN _ (Nat.le_of_ble_eq_true rfl)) (fun _ => rfl) (fun v3_20 => ?_)
    refine x_goto C 23 4 dX1_hadByAny_23 (by decide) ?_
    refine Y_sub [2, 1, 0] rfl ?_
    exact x_back (v1_19, v3_20) (hb4 (v1_19, v3_20))
