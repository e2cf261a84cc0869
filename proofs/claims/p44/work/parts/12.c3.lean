/-! the class's methods: programs and contracts -/
def M_X3_tellForm_J191 (σ : Wd) : Option Wd :=
  bnd1 (M_X3_take σ (59 : Int32)) fun s_194 => chk (famT (gR s_194 2 6)) (lt (uI s_194 (gR s_194 2 6) 4 ((gI s_194 (gR s_194 2 6) 4) + (1 : Int32))) fun s_207 => some s_207)
def M_X3_tellForm_J97 (σ : Wd) (v1 : Int32) (v2 : Int32) (t0 : Int32) : Option Wd :=
  bnd1 (M_X3_take σ t0) fun s_97 => bnd1 (M_X3_takeExpression s_97 (v2 + (1 : Int32))) fun s_104 => bnd1 (M_X3_take s_104 (105 : Int32)) fun s_110 => chk (famT (gR s_110 2 6)) (bnd2 (M_X3_cellHere s_110) fun r122 s_122 => chk (ib v1 6) (lt (uI s_122 ((gR s_110 2 6) + 3) (ix v1) r122) fun s_125 => bnd1 (M_X3_take s_125 (2 : Int32)) fun s_128 => bnd1 (M_X3_takeExpression s_128 (v2 + (2 : Int32))) fun s_135 => chk (famT (gR s_135 2 6)) (chk (ib v1 6) (lt (uI s_135 ((gR s_135 2 6) + 4) (ix v1) (-1 : Int32)) fun s_147 => bnd1 (M_X6_kind s_147) fun r152 => if r152 ≠ (106 : Int32) then (M_X3_tellForm_J191 s_147) else (bnd1 (M_X3_take s_147 (106 : Int32)) fun s_163 => chk (famT (gR s_163 2 6)) (bnd2 (M_X3_cellHere s_163) fun r175 s_175 => chk (ib v1 6) (lt (uI s_175 ((gR s_163 2 6) + 4) (ix v1) r175) fun s_178 => bnd1 (M_X3_take s_178 (2 : Int32)) fun s_181 => bnd1 (M_X3_takeExpression s_181 (v2 + (3 : Int32))) fun s_188 => M_X3_tellForm_J191 s_188)))))))
def M_X3_tellForm_J76 (σ : Wd) (v1 : Int32) (v2 : Int32) (t0 : Int32) (t1 : Int32) (b0 : Nat) : Option Wd :=
  chk (ib t1 6) (lt (uI σ b0 (ix t1) (vp_nar .boolean t0)) fun s_76 => chk (famT (gR s_76 2 6)) (chk (ib v1 6) (if (gI s_76 ((gR s_76 2 6) + 2) (ix v1)) = 0 then (M_X3_tellForm_J97 s_76 v1 v2 (61 : Int32)) else (M_X3_tellForm_J97 s_76 v1 v2 (60 : Int32)))))
def M_X3_tellForm (σ : Wd) : Option Wd :=
  chk (famT (gR σ 2 6)) (lt (gI σ (gR σ 2 6) 4) fun v1_7 => if v1_7 < (6 : Int32) then (lt (v1_7 * (4 : Int32)) fun v2_23 => bnd1 (M_X3_take σ (103 : Int32)) fun s_27 => bnd1 (M_X3_keepName s_27 (-1 : Int32)) fun s_32 => bnd1 (M_X3_take s_32 (2 : Int32)) fun s_37 => bnd1 (M_X3_take s_37 (104 : Int32)) fun s_43 => bnd1 (M_X3_takeExpression s_43 v2_23) fun s_48 => chk (famT (gR s_48 2 6)) (bnd1 (M_X6_kind s_48) fun r63 => if r63 ≠ (60 : Int32) then (M_X3_tellForm_J76 s_48 v1_7 v2_23 (0 : Int32) v1_7 ((gR s_48 2 6) + 2)) else (M_X3_tellForm_J76 s_48 v1_7 v2_23 (1 : Int32) v1_7 ((gR s_48 2 6) + 2)))) else (bnd1 (M_X3_fail σ (2 : Int32)) fun s_16 => some s_16))
set_option maxRecDepth 100000 in
set_option maxHeartbeats 4000000 in
theorem c_X3_tellForm (V : Ct_V) (l : Launch) (σ : Wd) {σ2 : Wd} (h : M_X3_tellForm σ = some σ2) : Ct l (Zc V) yX3_tellForm cX3_tellForm 3 none 4 92 [.ref (zA (Zc V) 2)] σ none σ2 := by
  refine Ct_intro (own := RX3) zc_ok (by decide +kernel) rfl (Nat.le_of_ble_eq_true rfl) [(0, .ref (zA (Zc V) 2))] rfl (fun K C R hKl hnL => ?_)
  have hN := nl_of hnL
  subst hKl
  refine Y_end h ?_
  unfold M_X3_tellForm
  refine x_aload_n C 0 0 dX3_tellForm_0 rfl ?_
  refine fgc_X3_29 C 1 dX3_tellForm_1 ?_
  refine Y_chk (fun hf1 => ?_)
  refine fgf_X3_106 (hf1) C 4 dX3_tellForm_4 ?_
  refine x_istore_nt C 7 (fun v1_7 => [(1, .int v1_7), (0, .ref (zA (Zc V) 2))]) dX3_tellForm_7 rfl (hN _ (Nat.le_of_ble_eq_true rfl)) (fun _ => rfl) (fun v1_7 => ?_)
  refine x_iload_n C 8 0 dX3_tellForm_8 rfl ?_
  refine x_bipush C 9 dX3_tellForm_9 kb_6 ?_
  refine x_icmp_lt C 11 20 dX3_tellForm_11 (by decide) (fun _ => ?_) (fun _ => ?_)
  · refine x_iload_n C 20 0 dX3_tellForm_20 rfl ?_
    refine x_iconst C 21 dX3_tellForm_21 ki_4 ?_
    refine x_imul C 22 dX3_tellForm_22 ?_
    refine x_istore_nt C 23 (fun v2_23 => [(2, .int v2_23), (1, .int v1_7), (0, .ref (zA (Zc V) 2))]) dX3_tellForm_23 rfl (hN _ (Nat.le_of_ble_eq_true rfl)) (fun _ => rfl) (fun v2_23 => ?_)
    refine x_aload_n C 24 2 dX3_tellForm_24 rfl ?_
    refine x_bipush C 25 dX3_tellForm_25 kb_103 ?_
    refine Y_bnd1 (fun s_27 h27 => ?_)
    refine x_callVv C 27 [.int (103 : Int32)] [] rfl tw_541 mv_X3_take (Nat.le_of_ble_eq_true rfl) (Nat.le_of_ble_eq_true rfl) (Nat.le_of_ble_eq_true rfl) (Nat.le_of_ble_eq_true rfl) (kc_2 V _) rfl dX3_tellForm_27 (c_X3_take V _ _ _ h27) ?_
    refine x_aload_n C 30 2 dX3_tellForm_30 rfl ?_
    refine x_iconst C 31 dX3_tellForm_31 ki_m1 ?_
    refine Y_bnd1 (fun s_32 h32 => ?_)
    refine x_callVv C 32 [.int (-1 : Int32)] [] rfl tw_553 mv_X3_keepName (Nat.le_of_ble_eq_true rfl) (Nat.le_of_ble_eq_true rfl) (Nat.le_of_ble_eq_true rfl) (Nat.le_of_ble_eq_true rfl) (kc_2 V _) rfl dX3_tellForm_32 (c_X3_keepName V _ _ _ h32) ?_
    refine x_aload_n C 35 2 dX3_tellForm_35 rfl ?_
    refine x_iconst C 36 dX3_tellForm_36 ki_2 ?_
    refine Y_bnd1 (fun s_37 h37 => ?_)
    refine x_callVv C 37 [.int (2 : Int32)] [] rfl tw_541 mv_X3_take (Nat.le_of_ble_eq_true rfl) (Nat.le_of_ble_eq_true rfl) (Nat.le_of_ble_eq_true rfl) (Nat.le_of_ble_eq_true rfl) (kc_2 V _) rfl dX3_tellForm_37 (c_X3_take V _ _ _ h37) ?_
    refine x_aload_n C 40 2 dX3_tellForm_40 rfl ?_
    refine x_bipush C 41 dX3_tellForm_41 kb_104 ?_
    refine Y_bnd1 (fun s_43 h43 => ?_)
    refine x_callVv C 43 [.int (104 : Int32)] [] rfl tw_541 mv_X3_take (Nat.le_of_ble_eq_true rfl) (Nat.le_of_ble_eq_true rfl) (Nat.le_of_ble_eq_true rfl) (Nat.le_of_ble_eq_true rfl) (kc_2 V _) rfl dX3_tellForm_43 (c_X3_take V _ _ _ h43) ?_
    refine x_aload_n C 46 2 dX3_tellForm_46 rfl ?_
    refine x_iload_n C 47 0 dX3_tellForm_47 rfl ?_
    refine Y_bnd1 (fun s_48 h48 => ?_)
    refine x_callVv C 48 [.int v2_23] [] rfl tw_577 mv_X3_takeExpression (Nat.le_of_ble_eq_true rfl) (Nat.le_of_ble_eq_true rfl) (Nat.le_of_ble_eq_true rfl) (Nat.le_of_ble_eq_true rfl) (kc_2 V _) rfl dX3_tellForm_48 (c_X3_takeExpression V _ _ _ h48) ?_
    refine x_aload_n C 51 2 dX3_tellForm_51 rfl ?_
    refine fgc_X3_29 C 52 dX3_tellForm_52 ?_
    refine Y_chk (fun hf52 => ?_)
    refine fgf_X3_112 (hf52) C 55 dX3_tellForm_55 ?_
    refine x_iload_n C 58 1 dX3_tellForm_58 rfl ?_
    refine x_aload_n C 59 2 dX3_tellForm_59 rfl ?_
    refine fgc_X3_12 C 60 dX3_tellForm_60 ?_
    refine Y_bnd1 (fun r63 h63 => ?_)
    refine x_callVi C 63 [] [.int v1_7, .ref (zA (Zc V) ((gR s_48 2 6) + 2))] rfl tw_525 mv_X6_kind (Nat.le_of_ble_eq_true rfl) (Nat.le_of_ble_eq_true rfl) (Nat.le_of_ble_eq_true rfl) (Nat.le_of_ble_eq_true rfl) (kc_6 V _) rfl dX3_tellForm_63 (c_X6_kind V _ _  h63) ?_
    refine x_bipush C 66 dX3_tellForm_66 kb_60 ?_
    have hJ76 : ∀ (σ_76 : Wd) (v1_76 : Int32) (v2_76 : Int32) (t0_76 : Int32) (t1_76 : Int32), Y K (Zc V) (M_X3_tellForm_J76 σ_76 v1_76 v2_76 t0_76 t1_76 ((gR s_48 2 6) + 2)) (fun q => q = σ2) σ_76 76 [(0, .ref (zA (Zc V) 2)), (1, .int v1_76), (2, .int v2_76)] [.int t0_76, .int t1_76, .ref (zA (Zc V) ((gR s_48 2 6) + 2))] := by
      intro σ_76 v1_76 v2_76 t0_76 t1_76
      unfold M_X3_tellForm_J76
      refine x_zast C 76 (ltT_2 hf52) (kT_2 V hf52) dX3_tellForm_76 (fun _ s_76 => ?_)
      refine x_aload_n C 77 0 dX3_tellForm_77 rfl ?_
      refine x_aload_n C 78 0 dX3_tellForm_78 rfl ?_
      refine fgc_X3_29 C 79 dX3_tellForm_79 ?_
      refine Y_chk (fun hf79 => ?_)
      refine fgf_X3_112 (hf79) C 82 dX3_tellForm_82 ?_
      refine x_iload_n C 85 1 dX3_tellForm_85 rfl ?_
      refine x_zald C 86 (ltT_2 hf79) (kT_2 V hf79 _) dX3_tellForm_86 (fun _ => ?_)
      have hJ97 : ∀ (σ_97 : Wd) (v1_97 : Int32) (v2_97 : Int32) (t0_97 : Int32), Y K (Zc V) (M_X3_tellForm_J97 σ_97 v1_97 v2_97 t0_97) (fun q => q = σ2) σ_97 97 [(0, .ref (zA (Zc V) 2)), (1, .int v1_97), (2, .int v2_97)] [.int t0_97, .ref (zA (Zc V) 2)] := by
        intro σ_97 v1_97 v2_97 t0_97
        unfold M_X3_tellForm_J97
        refine Y_bnd1 (fun s_97 h97 => ?_)
        refine x_callVv C 97 [.int t0_97] [] rfl tw_541 mv_X3_take (Nat.le_of_ble_eq_true rfl) (Nat.le_of_ble_eq_true rfl) (Nat.le_of_ble_eq_true rfl) (Nat.le_of_ble_eq_true rfl) (kc_2 V _) rfl dX3_tellForm_97 (c_X3_take V _ _ _ h97) ?_
        refine x_aload_n C 100 0 dX3_tellForm_100 rfl ?_
        refine x_iload_n C 101 2 dX3_tellForm_101 rfl ?_
        refine x_iconst C 102 dX3_tellForm_102 ki_1 ?_
        refine x_iadd C 103 dX3_tellForm_103 ?_
        refine Y_bnd1 (fun s_104 h104 => ?_)
        refine x_callVv C 104 [.int (v2_97 + (1 : Int32))] [] rfl tw_577 mv_X3_takeExpression (Nat.le_of_ble_eq_true rfl) (Nat.le_of_ble_eq_true rfl) (Nat.le_of_ble_eq_true rfl) (Nat.le_of_ble_eq_true rfl) (kc_2 V _) rfl dX3_tellForm_104 (c_X3_takeExpression V _ _ _ h104) ?_
        refine x_aload_n C 107 0 dX3_tellForm_107 rfl ?_
        refine x_bipush C 108 dX3_tellForm_108 kb_105 ?_
        refine Y_bnd1 (fun s_110 h110 => ?_)
        refine x_callVv C 110 [.int (105 : Int32)] [] rfl tw_541 mv_X3_take (Nat.le_of_ble_eq_true rfl) (Nat.le_of_ble_eq_true rfl) (Nat.le_of_ble_eq_true rfl) (Nat.le_of_ble_eq_true rfl) (kc_2 V _) rfl dX3_tellForm_110 (c_X3_take V _ _ _ h110) ?_
        refine x_aload_n C 113 0 dX3_tellForm_113 rfl ?_
        refine fgc_X3_29 C 114 dX3_tellForm_114 ?_
        refine Y_chk (fun hf114 => ?_)
        refine fgf_X3_116 (hf114) C 117 dX3_tellForm_117 ?_
        refine x_iload_n C 120 1 dX3_tellForm_120 rfl ?_
        refine x_aload_n C 121 0 dX3_tellForm_121 rfl ?_
        refine Y_bnd2 (fun r122 s_122 h122 => ?_)
        refine x_callVi C 122 [] [.int v1_97, .ref (zA (Zc V) ((gR s_110 2 6) + 3))] rfl tw_593 mv_X3_cellHere (Nat.le_of_ble_eq_true rfl) (Nat.le_of_ble_eq_true rfl) (Nat.le_of_ble_eq_true rfl) (Nat.le_of_ble_eq_true rfl) (kc_2 V _) rfl dX3_tellForm_122 (c_X3_cellHere V _ _  h122) ?_
        refine x_iast C 125 (ltT_3 hf114) (kT_3 V hf114) dX3_tellForm_125 (fun _ s_125 => ?_)
        refine x_aload_n C 126 0 dX3_tellForm_126 rfl ?_
        refine x_iconst C 127 dX3_tellForm_127 ki_2 ?_
        refine Y_bnd1 (fun s_128 h128 => ?_)
        refine x_callVv C 128 [.int (2 : Int32)] [] rfl tw_541 mv_X3_take (Nat.le_of_ble_eq_true rfl) (Nat.le_of_ble_eq_true rfl) (Nat.le_of_ble_eq_true rfl) (Nat.le_of_ble_eq_true rfl) (kc_2 V _) rfl dX3_tellForm_128 (c_X3_take V _ _ _ h128) ?_
        refine x_aload_n C 131 0 dX3_tellForm_131 rfl ?_
        refine x_iload_n C 132 2 dX3_tellForm_132 rfl ?_
        refine x_iconst C 133 dX3_tellForm_133 ki_2 ?_
        refine x_iadd C 134 dX3_tellForm_134 ?_
        refine Y_bnd1 (fun s_135 h135 => ?_)
        refine x_callVv C 135 [.int (v2_97 + (2 : Int32))] [] rfl tw_577 mv_X3_takeExpression (Nat.le_of_ble_eq_true rfl) (Nat.le_of_ble_eq_true rfl) (Nat.le_of_ble_eq_true rfl) (Nat.le_of_ble_eq_true rfl) (kc_2 V _) rfl dX3_tellForm_135 (c_X3_takeExpression V _ _ _ h135) ?_
        refine x_aload_n C 138 0 dX3_tellForm_138 rfl ?_
        refine fgc_X3_29 C 139 dX3_tellForm_139 ?_
        refine Y_chk (fun hf139 => ?_)
        refine fgf_X3_122 (hf139) C 142 dX3_tellForm_142 ?_
        refine x_iload_n C 145 1 dX3_tellForm_145 rfl ?_
        refine x_iconst C 146 dX3_tellForm_146 ki_m1 ?_
        refine x_iast C 147 (ltT_4 hf139) (kT_4 V hf139) dX3_tellForm_147 (fun _ s_147 => ?_)
        refine x_aload_n C 148 0 dX3_tellForm_148 rfl ?_
        refine fgc_X3_12 C 149 dX3_tellForm_149 ?_
        refine Y_bnd1 (fun r152 h152 => ?_)
        refine x_callVi C 152 [] [] rfl tw_525 mv_X6_kind (Nat.le_of_ble_eq_true rfl) (Nat.le_of_ble_eq_true rfl) (Nat.le_of_ble_eq_true rfl) (Nat.le_of_ble_eq_true rfl) (kc_6 V _) rfl dX3_tellForm_152 (c_X6_kind V _ _  h152) ?_
        refine x_bipush C 155 dX3_tellForm_155 kb_106 ?_
        have hJ191 : ∀ (σ_191 : Wd), Y K (Zc V) (M_X3_tellForm_J191 σ_191) (fun q => q = σ2) σ_191 191 [(0, .ref (zA (Zc V) 2))] [] := by
          intro σ_191
          unfold M_X3_tellForm_J191
          refine x_aload_n C 191 0 dX3_tellForm_191 rfl ?_
          refine x_bipush C 192 dX3_tellForm_192 kb_59 ?_
          refine Y_bnd1 (fun s_194 h194 => ?_)
          refine x_callVv C 194 [.int (59 : Int32)] [] rfl tw_541 mv_X3_take (Nat.le_of_ble_eq_true rfl) (Nat.le_of_ble_eq_true rfl) (Nat.le_of_ble_eq_true rfl) (Nat.le_of_ble_eq_true rfl) (kc_2 V _) rfl dX3_tellForm_194 (c_X3_take V _ _ _ h194) ?_
          refine x_aload_n C 197 0 dX3_tellForm_197 rfl ?_
          refine fgc_X3_29 C 198 dX3_tellForm_198 ?_
          refine Y_chk (fun hf198 => ?_)
          refine x_dup C 201 dX3_tellForm_201 rfl ?_
          refine fgf_X3_106 (hf198) C 202 dX3_tellForm_202 ?_
          refine x_iconst C 205 dX3_tellForm_205 ki_1 ?_
          refine x_iadd C 206 dX3_tellForm_206 ?_
          refine fpf_X3_106 (hf198) C 207 dX3_tellForm_207 (fun s_207 => ?_)
          exact x_vret C R 210 dX3_tellForm_210
        refine x_icmp_ne C 157 191 dX3_tellForm_157 (by decide) (fun _ => ?_) (fun _ => ?_)
        · refine Y_sub [0] rfl ?_
          exact hJ191 _
        · refine x_aload_n C 160 0 dX3_tellForm_160 rfl ?_
          refine x_bipush C 161 dX3_tellForm_161 kb_106 ?_
          refine Y_bnd1 (fun s_163 h163 => ?_)
          refine x_callVv C 163 [.int (106 : Int32)] [] rfl tw_541 mv_X3_take (Nat.le_of_ble_eq_true rfl) (Nat.le_of_ble_eq_true rfl) (Nat.le_of_ble_eq_true rfl) (Nat.le_of_ble_eq_true rfl) (kc_2 V _) rfl dX3_tellForm_163 (c_X3_take V _ _ _ h163) ?_
          refine x_aload_n C 166 0 dX3_tellForm_166 rfl ?_
          refine fgc_X3_29 C 167 dX3_tellForm_167 ?_
          refine Y_chk (fun hf167 => ?_)
          refine fgf_X3_122 (hf167) C 170 dX3_tellForm_170 ?_
          refine x_iload_n C 173 1 dX3_tellForm_173 rfl ?_
          refine x_aload_n C 174 0 dX3_tellForm_174 rfl ?_
          refine Y_bnd2 (fun r175 s_175 h175 => ?_)
          refine x_callVi C 175 [] [.int v1_97, .ref (zA (Zc V) ((gR s_163 2 6) + 4))] rfl tw_593 mv_X3_cellHere (Nat.le_of_ble_eq_true rfl) (Nat.le_of_ble_eq_true rfl) (Nat.le_of_ble_eq_true rfl) (Nat.le_of_ble_eq_true rfl) (kc_2 V _) rfl dX3_tellForm_175 (c_X3_cellHere V _ _  h175) ?_
          refine x_iast C 178 (ltT_4 hf167) (kT_4 V hf167) dX3_tellForm_178 (fun _ s_178 => ?_)
          refine x_aload_n C 179 0 dX3_tellForm_179 rfl ?_
          refine x_iconst C 180 dX3_tellForm_180 ki_2 ?_
          refine Y_bnd1 (fun s_181 h181 => ?_)
          refine x_callVv C 181 [.int (2 : Int32)] [] rfl tw_541 mv_X3_take (Nat.le_of_ble_eq_true rfl) (Nat.le_of_ble_eq_true rfl) (Nat.le_of_ble_eq_true rfl) (Nat.le_of_ble_eq_true rfl) (kc_2 V _) rfl dX3_tellForm_181 (c_X3_take V _ _ _ h181) ?_
          refine x_aload_n C 184 0 dX3_tellForm_184 rfl ?_
          refine x_iload_n C 185 2 dX3_tellForm_185 rfl ?_
          refine x_iconst C 186 dX3_tellForm_186 ki_3 ?_
          refine x_iadd C 187 dX3_tellForm_187 ?_
          refine Y_bnd1 (fun s_188 h188 => ?_)
          refine x_callVv C 188 [.int (v2_97 + (3 : Int32))] [] rfl tw_577 mv_X3_takeExpression (Nat.le_of_ble_eq_true rfl) (Nat.le_of_ble_eq_true rfl) (Nat.le_of_ble_eq_true rfl) (Nat.le_of_ble_eq_true rfl) (kc_2 V _) rfl dX3_tellForm_188 (c_X3_takeExpression V _ _ _ h188) ?_
          refine Y_sub [0] rfl ?_
          exact hJ191 _
      refine x_if_eq C 87 95 dX3_tellForm_87 (by decide) (fun _ => ?_) (fun _ => ?_)
      · refine x_bipush C 95 dX3_tellForm_95 kb_61 ?_
        exact hJ97 _ _ _ _
      · refine x_bipush C 90 dX3_tellForm_90 kb_60 ?_
        refine x_goto C 92 97 dX3_tellForm_92 (by decide) ?_
        exact hJ97 _ _ _ _
    refine x_icmp_ne C 68 75 dX3_tellForm_68 (by decide) (fun _ => ?_) (fun _ => ?_)
    · refine x_iconst C 75 dX3_tellForm_75 ki_0 ?_
      refine Y_sub [2, 1, 0] rfl ?_
      exact hJ76 _ _ _ _ _
    · refine x_iconst C 71 dX3_tellForm_71 ki_1 ?_
      refine x_goto C 72 76 dX3_tellForm_72 (by decide) ?_
      refine Y_sub [2, 1, 0] rfl ?_
      exact hJ76 _ _ _ _ _
  · refine x_aload_n C 14 1 dX3_tellForm_14 rfl ?_
    refine x_iconst C 15 dX3_tellForm_15 ki_2 ?_
    refine Y_bnd1 (fun s_16 h16 => ?_)
    refine x_callVv C 16 [.int (2 : Int32)] [] rfl tw_533 mv_X3_fail (Nat.le_of_ble_eq_true rfl) (Nat.le_of_ble_eq_true rfl) (Nat.le_of_ble_eq_true rfl) (Nat.le_of_ble_eq_true rfl) (kc_2 V _) rfl dX3_tellForm_16 (c_X3_fail V _ _ _ h16) ?_
    exact x_vret C R 19 dX3_tellForm_19
def M_X3_tellNumber_J80 (σ : Wd) (v2 : Int32) : Option Wd :=
  bnd1 (M_X3_failLater σ (5 : Int32) v2) fun s_83 => some s_83
def M_X3_tellNumber_J24 (σ : Wd) (v1 : Int32) : Option Wd :=
  bnd1 (M_X3_take σ v1) fun s_26 => bnd1 (M_X6_start s_26) fun r33 => bnd1 (M_X6_number s_26) fun r41 => bnd1 (M_X3_take s_26 (3 : Int32)) fun s_47 => bnd1 (M_X3_take s_47 (59 : Int32)) fun s_53 => if v1 ≠ (100 : Int32) then (if v1 ≠ (101 : Int32) then (chk (famT (gR s_53 2 6)) (lt (uI s_53 (gR s_53 2 6) 2 r41) fun s_122 => some s_122)) else (chk (famT (gR s_53 2 6)) (lt (uI s_53 (gR s_53 2 6) 1 r41) fun s_100 => if r41 < (5 : Int32) then (some s_100) else (bnd1 (M_X3_failLater s_100 (5 : Int32) r33) fun s_111 => some s_111)))) else (chk (famT (gR s_53 2 6)) (lt (uI s_53 (gR s_53 2 6) 0 r41) fun s_67 => if r41 < (1 : Int32) then (M_X3_tellNumber_J80 s_67 r33) else (if r41 ≤ (5 : Int32) then (some s_67) else (M_X3_tellNumber_J80 s_67 r33))))
def M_X3_tellNumber (σ : Wd) (v1 : Int32) : Option Wd :=
  if v1 = (100 : Int32) then (M_X3_tellNumber_J24 σ v1) else (if v1 = (101 : Int32) then (M_X3_tellNumber_J24 σ v1) else (if v1 = (107 : Int32) then (M_X3_tellNumber_J24 σ v1) else (bnd1 (M_X3_fail σ (1 : Int32)) fun s_20 => some s_20)))
set_option maxRecDepth 100000 in
set_option maxHeartbeats 4000000 in
theorem c_X3_tellNumber (V : Ct_V) (l : Launch) (σ : Wd) (v1 : Int32) {σ2 : Wd} (h : M_X3_tellNumber σ v1 = some σ2) : Ct l (Zc V) yX3_tellNumber cX3_tellNumber 4 none 3 62 [.ref (zA (Zc V) 2), .int v1] σ none σ2 := by
  refine Ct_intro (own := RX3) zc_ok (by decide +kernel) rfl (Nat.le_of_ble_eq_true rfl) [(0, .ref (zA (Zc V) 2)), (1, .int v1)] rfl (fun K C R hKl hnL => ?_)
  have hN := nl_of hnL
  subst hKl
  refine Y_end h ?_
  unfold M_X3_tellNumber
  refine x_iload_n C 0 1 dX3_tellNumber_0 rfl ?_
  refine x_bipush C 1 dX3_tellNumber_1 kb_100 ?_
  have hJ24 : ∀ (σ_24 : Wd) (v1_24 : Int32), Y K (Zc V) (M_X3_tellNumber_J24 σ_24 v1_24) (fun q => q = σ2) σ_24 24 [(0, .ref (zA (Zc V) 2)), (1, .int v1_24)] [] := by
    intro σ_24 v1_24
    unfold M_X3_tellNumber_J24
    refine x_aload_n C 24 0 dX3_tellNumber_24 rfl ?_
    refine x_iload_n C 25 1 dX3_tellNumber_25 rfl ?_
    refine Y_bnd1 (fun s_26 h26 => ?_)
    refine x_callVv C 26 [.int v1_24] [] rfl tw_541 mv_X3_take (Nat.le_of_ble_eq_true rfl) (Nat.le_of_ble_eq_true rfl) (Nat.le_of_ble_eq_true rfl) (Nat.le_of_ble_eq_true rfl) (kc_2 V _) rfl dX3_tellNumber_26 (c_X3_take V _ _ _ h26) ?_
    refine x_aload_n C 29 0 dX3_tellNumber_29 rfl ?_
    refine fgc_X3_12 C 30 dX3_tellNumber_30 ?_
    refine Y_bnd1 (fun r33 h33 => ?_)
    refine x_callVi C 33 [] [] rfl tw_537 mv_X6_start (Nat.le_of_ble_eq_true rfl) (Nat.le_of_ble_eq_true rfl) (Nat.le_of_ble_eq_true rfl) (Nat.le_of_ble_eq_true rfl) (kc_6 V _) rfl dX3_tellNumber_33 (c_X6_start V _ _  h33) ?_
    refine x_istore_n C 36 (L' := [(2, .int r33), (0, .ref (zA (Zc V) 2)), (1, .int v1_24)]) dX3_tellNumber_36 rfl (hN _ (Nat.le_of_ble_eq_true rfl)) rfl ?_
    refine x_aload_n C 37 1 dX3_tellNumber_37 rfl ?_
    refine fgc_X3_12 C 38 dX3_tellNumber_38 ?_
    refine Y_bnd1 (fun r41 h41 => ?_)
    refine x_callVi C 41 [] [] rfl tw_569 mv_X6_number (Nat.le_of_ble_eq_true rfl) (Nat.le_of_ble_eq_true rfl) (Nat.le_of_ble_eq_true rfl) (Nat.le_of_ble_eq_true rfl) (kc_6 V _) rfl dX3_tellNumber_41 (c_X6_number V _ _  h41) ?_
    refine x_istore_n C 44 (L' := [(3, .int r41), (2, .int r33), (0, .ref (zA (Zc V) 2)), (1, .int v1_24)]) dX3_tellNumber_44 rfl (hN _ (Nat.le_of_ble_eq_true rfl)) rfl ?_
    refine x_aload_n C 45 2 dX3_tellNumber_45 rfl ?_
    refine x_iconst C 46 dX3_tellNumber_46 ki_3 ?_
    refine Y_bnd1 (fun s_47 h47 => ?_)
    refine x_callVv C 47 [.int (3 : Int32)] [] rfl tw_541 mv_X3_take (Nat.le_of_ble_eq_true rfl) (Nat.le_of_ble_eq_true rfl) (Nat.le_of_ble_eq_true rfl) (Nat.le_of_ble_eq_true rfl) (kc_2 V _) rfl dX3_tellNumber_47 (c_X3_take V _ _ _ h47) ?_
    refine x_aload_n C 50 2 dX3_tellNumber_50 rfl ?_
    refine x_bipush C 51 dX3_tellNumber_51 kb_59 ?_
    refine Y_bnd1 (fun s_53 h53 => ?_)
    refine x_callVv C 53 [.int (59 : Int32)] [] rfl tw_541 mv_X3_take (Nat.le_of_ble_eq_true rfl) (Nat.le_of_ble_eq_true rfl) (Nat.le_of_ble_eq_true rfl) (Nat.le_of_ble_eq_true rfl) (kc_2 V _) rfl dX3_tellNumber_53 (c_X3_take V _ _ _ h53) ?_
    refine x_iload_n C 56 3 dX3_tellNumber_56 rfl ?_
    refine x_bipush C 57 dX3_tellNumber_57 kb_100 ?_
    refine x_icmp_ne C 59 89 dX3_tellNumber_59 (by decide) (fun _ => ?_) (fun _ => ?_)
    · refine x_iload_n C 89 3 dX3_tellNumber_89 rfl ?_
      refine x_bipush C 90 dX3_tellNumber_90 kb_101 ?_
      refine x_icmp_ne C 92 117 dX3_tellNumber_92 (by decide) (fun _ => ?_) (fun _ => ?_)
      · refine x_aload_n C 117 2 dX3_tellNumber_117 rfl ?_
        refine fgc_X3_29 C 118 dX3_tellNumber_118 ?_
        refine Y_chk (fun hf118 => ?_)
        refine x_iload_n C 121 0 dX3_tellNumber_121 rfl ?_
        refine fpf_X3_94 (hf118) C 122 dX3_tellNumber_122 (fun s_122 => ?_)
        exact x_vret C R 125 dX3_tellNumber_125
      · refine x_aload_n C 95 2 dX3_tellNumber_95 rfl ?_
        refine fgc_X3_29 C 96 dX3_tellNumber_96 ?_
        refine Y_chk (fun hf96 => ?_)
        refine x_iload_n C 99 0 dX3_tellNumber_99 rfl ?_
        refine fpf_X3_72 (hf96) C 100 dX3_tellNumber_100 (fun s_100 => ?_)
        refine x_iload_n C 103 0 dX3_tellNumber_103 rfl ?_
        refine x_iconst C 104 dX3_tellNumber_104 ki_5 ?_
        refine x_icmp_lt C 105 125 dX3_tellNumber_105 (by decide) (fun _ => ?_) (fun _ => ?_)
        · exact x_vret C R 125 dX3_tellNumber_125
        · refine x_aload_n C 108 2 dX3_tellNumber_108 rfl ?_
          refine x_iconst C 109 dX3_tellNumber_109 ki_5 ?_
          refine x_iload_n C 110 1 dX3_tellNumber_110 rfl ?_
          refine Y_bnd1 (fun s_111 h111 => ?_)
          refine x_callVv C 111 [.int (5 : Int32), .int r33] [] rfl tw_565 mv_X3_failLater (Nat.le_of_ble_eq_true rfl) (Nat.le_of_ble_eq_true rfl) (Nat.le_of_ble_eq_true rfl) (Nat.le_of_ble_eq_true rfl) (kc_2 V _) rfl dX3_tellNumber_111 (c_X3_failLater V _ _ _ _ h111) ?_
          refine x_goto C 114 125 dX3_tellNumber_114 (by decide) ?_
          exact x_vret C R 125 dX3_tellNumber_125
    · refine x_aload_n C 62 2 dX3_tellNumber_62 rfl ?_
      refine fgc_X3_29 C 63 dX3_tellNumber_63 ?_
      refine Y_chk (fun hf63 => ?_)
      refine x_iload_n C 66 0 dX3_tellNumber_66 rfl ?_
      refine fpf_X3_75 (hf63) C 67 dX3_tellNumber_67 (fun s_67 => ?_)
      refine x_iload_n C 70 0 dX3_tellNumber_70 rfl ?_
      refine x_iconst C 71 dX3_tellNumber_71 ki_1 ?_
      have hJ80 : ∀ (σ_80 : Wd) (v2_80 : Int32), Y K (Zc V) (M_X3_tellNumber_J80 σ_80 v2_80) (fun q => q = σ2) σ_80 80 [(0, .ref (zA (Zc V) 2)), (2, .int v2_80)] [] := by
        intro σ_80 v2_80
        unfold M_X3_tellNumber_J80
        refine x_aload_n C 80 0 dX3_tellNumber_80 rfl ?_
        refine x_iconst C 81 dX3_tellNumber_81 ki_5 ?_
        refine x_iload_n C 82 1 dX3_tellNumber_82 rfl ?_
        refine Y_bnd1 (fun s_83 h83 => ?_)
        refine x_callVv C 83 [.int (5 : Int32), .int v2_80] [] rfl tw_565 mv_X3_failLater (Nat.le_of_ble_eq_true rfl) (Nat.le_of_ble_eq_true rfl) (Nat.le_of_ble_eq_true rfl) (Nat.le_of_ble_eq_true rfl) (kc_2 V _) rfl dX3_tellNumber_83 (c_X3_failLater V _ _ _ _ h83) ?_
        refine x_goto C 86 125 dX3_tellNumber_86 (by decide) ?_
        exact x_vret C R 125 dX3_tellNumber_125
      refine x_icmp_lt C 72 80 dX3_tellNumber_72 (by decide) (fun _ => ?_) (fun _ => ?_)
      · refine Y_sub [2, 1] rfl ?_
        exact hJ80 _ _
      · refine x_iload_n C 75 0 dX3_tellNumber_75 rfl ?_
        refine x_iconst C 76 dX3_tellNumber_76 ki_5 ?_
        refine x_icmp_le C 77 125 dX3_tellNumber_77 (by decide) (fun _ => ?_) (fun _ => ?_)
        · exact x_vret C R 125 dX3_tellNumber_125
        · refine Y_sub [2, 1] rfl ?_
          exact hJ80 _ _
  refine x_icmp_eq C 3 24 dX3_tellNumber_3 (by decide) (fun _ => ?_) (fun _ => ?_)
  · exact hJ24 _ _
  · refine x_iload_n C 6 1 dX3_tellNumber_6 rfl ?_
    refine x_bipush C 7 dX3_tellNumber_7 kb_101 ?_
    refine x_icmp_eq C 9 24 dX3_tellNumber_9 (by decide) (fun _ => ?_) (fun _ => ?_)
    · exact hJ24 _ _
    · refine x_iload_n C 12 1 dX3_tellNumber_12 rfl ?_
      refine x_bipush C 13 dX3_tellNumber_13 kb_107 ?_
      refine x_icmp_eq C 15 24 dX3_tellNumber_15 (by decide) (fun _ => ?_) (fun _ => ?_)
      · exact hJ24 _ _
      · refine x_aload_n C 18 0 dX3_tellNumber_18 rfl ?_
        refine x_iconst C 19 dX3_tellNumber_19 ki_1 ?_
        refine Y_bnd1 (fun s_20 h20 => ?_)
        refine x_callVv C 20 [.int (1 : Int32)] [] rfl tw_533 mv_X3_fail (Nat.le_of_ble_eq_true rfl) (Nat.le_of_ble_eq_true rfl) (Nat.le_of_ble_eq_true rfl) (Nat.le_of_ble_eq_true rfl) (kc_2 V _) rfl dX3_tellNumber_20 (c_X3_fail V _ _ _ h20) ?_
        exact x_vret C R 23 dX3_tellNumber_23
def M_X3_readInto_J170 (g3 : Nat) (σ : Wd) : Option (Int32 × Wd) :=
  some ((gI σ 2 7), σ)
def M_X3_readInto_J147 (g3 : Nat) (σ : Wd) : Option (Int32 × Wd) :=
  if (gI σ 2 7) ≠ 0 then (M_X3_readInto_J170 g3 σ) else (lt (uI σ 2 7 (gI σ 2 9)) fun s_159 => lt (uI s_159 2 8 (gI s_159 2 10)) fun s_167 => M_X3_readInto_J170 g3 s_167)
def M_X3_readInto_J123 (g3 : Nat) (σ : Wd) (v2 : Int32) : Option (Int32 × Wd) :=
  chk (famT (gR σ 2 6)) (chk (famT (gR σ 2 6)) (if (gI σ (gR σ 2 6) 1) < (gI σ (gR σ 2 6) 0) then (M_X3_readInto_J147 g3 σ) else (bnd1 (M_X3_failLater σ (6 : Int32) v2) fun s_144 => M_X3_readInto_J147 g3 s_144)))
def M_X3_readInto_L49 (g3 : Nat) (v2 : Int32) (v4 : Int32) (σ : Wd) : Option ((Int32 × Wd) ⊕ (Wd)) :=
  if (400 : Int32) < v4 then (some (.inr σ)) else (if (gI σ 2 7) ≠ 0 then (some (.inr σ)) else (bnd1 (M_X6_kind σ) fun r68 => if r68 = 0 then (some (.inr σ)) else (bnd1 (M_X6_kind σ) fun r78 => if r78 ≠ (102 : Int32) then (if r78 ≠ (103 : Int32) then (bnd1 (M_X3_tellNumber σ r78) fun s_114 => lt (v4 + (1 : Int32)) fun v4_117 => some (.inl (v4_117, s_114))) else (bnd1 (M_X3_tellForm σ) fun s_105 => lt (v4 + (1 : Int32)) fun v4_117 => some (.inl (v4_117, s_105)))) else (bnd1 (M_X3_tellCell σ) fun s_91 => lt (v4 + (1 : Int32)) fun v4_117 => some (.inl (v4_117, s_91))))))
def M_X3_readInto (σ : Wd) (v2 : Int32) (g3 : Nat) : Option (Int32 × Wd) :=
  lt (uR σ 2 6 g3) fun s_2 => chk (famT (gR s_2 2 6)) (bnd1 (M_X7_clear s_2 (gR s_2 2 6)) fun s_9 => lt (uI s_9 2 3 (0 : Int32)) fun s_14 => lt (uI s_14 2 7 (0 : Int32)) fun s_19 => lt (uI s_19 2 8 (-1 : Int32)) fun s_24 => lt (uI s_24 2 9 (0 : Int32)) fun s_29 => lt (uI s_29 2 10 (-1 : Int32)) fun s_34 => bnd1 (M_X6_takeAll s_34 v2) fun s_43 => bnd1 (iter (fun s : Int32 × Wd => M_X3_readInto_L49 g3 v2 s.1 s.2) FU ((0 : Int32), s_43)) (un1 fun sx_49 => (M_X3_readInto_J123 g3 sx_49 v2)))
set_option maxRecDepth 100000 in
set_option maxHeartbeats 4000000 in
theorem c_X3_readInto (V : Ct_V) (l : Launch) (σ : Wd) (v2 : Int32) (g3 : Nat) (hg3 : famT g3) {r : Int32} {σ2 : Wd} (h : M_X3_readInto σ v2 g3 = some (r, σ2)) : Ct l (Zc V) yX3_readInto cX3_readInto 6 (some .int) 6 142 [.ref (zA (Zc V) 2), .ref (zA (Zc V) 1), .int v2, .ref (zA (Zc V) g3)] σ (some (.int r)) σ2 := by
  refine Ct_intro (own := RX3) zc_ok (by decide +kernel) rfl (Nat.le_of_ble_eq_true rfl) [(0, .ref (zA (Zc V) 2)), (1, .ref (zA (Zc V) 1)), (2, .int v2), (3, .ref (zA (Zc V) g3))] rfl (fun K C R hKl hnL => ?_)
  have hN := nl_of hnL
  subst hKl
  refine Y_end h ?_
  unfold M_X3_readInto
  refine x_aload_n C 0 0 dX3_readInto_0 rfl ?_
  refine x_aload_n C 1 3 dX3_readInto_1 rfl ?_
  refine fpc_X3_29 C 2 dX3_readInto_2 (fun s_2 => ?_)
  refine x_aload_n C 5 0 dX3_readInto_5 rfl ?_
  refine fgc_X3_29 C 6 dX3_readInto_6 ?_
  refine Y_chk (fun hf6 => ?_)
  refine Y_bnd1 (fun s_9 h9 => ?_)
  refine x_callVv C 9 [] [] rfl tw_405 mv_X7_clear (Nat.le_of_ble_eq_true rfl) (Nat.le_of_ble_eq_true rfl) (Nat.le_of_ble_eq_true rfl) (ltT_0 hf6) (kT_0 V hf6 _) rfl dX3_readInto_9 (c_X7_clear V _ _ _ hf6 h9) ?_
  refine x_aload_n C 12 0 dX3_readInto_12 rfl ?_
  refine x_iconst C 13 dX3_readInto_13 ki_0 ?_
  refine fpc_X3_42 C 14 dX3_readInto_14 (fun s_14 => ?_)
  refine x_aload_n C 17 0 dX3_readInto_17 rfl ?_
  refine x_iconst C 18 dX3_readInto_18 ki_0 ?_
  refine fpc_X3_45 C 19 dX3_readInto_19 (fun s_19 => ?_)
  refine x_aload_n C 22 0 dX3_readInto_22 rfl ?_
  refine x_iconst C 23 dX3_readInto_23 ki_m1 ?_
  refine fpc_X3_33 C 24 dX3_readInto_24 (fun s_24 => ?_)
  refine x_aload_n C 27 0 dX3_readInto_27 rfl ?_
  refine x_iconst C 28 dX3_readInto_28 ki_0 ?_
  refine fpc_X3_48 C 29 dX3_readInto_29 (fun s_29 => ?_)
  refine x_aload_n C 32 0 dX3_readInto_32 rfl ?_
  refine x_iconst C 33 dX3_readInto_33 ki_m1 ?_
  refine fpc_X3_51 C 34 dX3_readInto_34 (fun s_34 => ?_)
  refine x_aload_n C 37 0 dX3_readInto_37 rfl ?_
  refine fgc_X3_12 C 38 dX3_readInto_38 ?_
  refine x_aload_n C 41 1 dX3_readInto_41 rfl ?_
  refine x_iload_n C 42 2 dX3_readInto_42 rfl ?_
  refine Y_bnd1 (fun s_43 h43 => ?_)
  refine x_callVv C 43 [.ref (zA (Zc V) 1), .int v2] [] rfl tw_409 mv_X6_takeAll (Nat.le_of_ble_eq_true rfl) (Nat.le_of_ble_eq_true rfl) (Nat.le_of_ble_eq_true rfl) (Nat.le_of_ble_eq_true rfl) (kc_6 V _) rfl dX3_readInto_43 (c_X6_takeAll V _ _ _ h43) ?_
  refine x_iconst C 46 dX3_readInto_46 ki_0 ?_
  refine x_istore C 47 (L' := [(4, .int (0 : Int32)), (0, .ref (zA (Zc V) 2)), (1, .ref (zA (Zc V) 1)), (2, .int v2), (3, .ref (zA (Zc V) g3))]) dX3_readInto_47 (hN _ (Nat.le_of_ble_eq_true rfl)) rfl ?_
  have hJ123 : ∀ (σ_123 : Wd) (v2_123 : Int32), Y K (Zc V) (M_X3_readInto_J123 g3 σ_123 v2_123) (fun q => q = (r, σ2)) σ_123 123 [(0, .ref (zA (Zc V) 2)), (2, .int v2_123)] [] := by
    intro σ_123 v2_123
    unfold M_X3_readInto_J123
    refine x_aload_n C 123 0 dX3_readInto_123 rfl ?_
    refine fgc_X3_29 C 124 dX3_readInto_124 ?_
    refine Y_chk (fun hf124 => ?_)
    refine fgf_X3_72 (hf124) C 127 dX3_readInto_127 ?_
    refine x_aload_n C 130 0 dX3_readInto_130 rfl ?_
    refine fgc_X3_29 C 131 dX3_readInto_131 ?_
    refine Y_chk (fun hf131 => ?_)
    refine fgf_X3_75 (hf131) C 134 dX3_readInto_134 ?_
    have hJ147 : ∀ (σ_147 : Wd), Y K (Zc V) (M_X3_readInto_J147 g3 σ_147) (fun q => q = (r, σ2)) σ_147 147 [(0, .ref (zA (Zc V) 2))] [] := by
      intro σ_147
      unfold M_X3_readInto_J147
      refine x_aload_n C 147 0 dX3_readInto_147 rfl ?_
      refine fgc_X3_45 C 148 dX3_readInto_148 ?_
      have hJ170 : ∀ (σ_170 : Wd), Y K (Zc V) (M_X3_readInto_J170 g3 σ_170) (fun q => q = (r, σ2)) σ_170 170 [(0, .ref (zA (Zc V) 2))] [] := by
        intro σ_170
        unfold M_X3_readInto_J170
        refine x_aload_n C 170 0 dX3_readInto_170 rfl ?_
        refine fgc_X3_45 C 171 dX3_readInto_171 ?_
        exact x_iret2 C R 174 dX3_readInto_174
      refine x_if_ne C 151 170 dX3_readInto_151 (by decide) (fun _ => ?_) (fun _ => ?_)
      · exact hJ170 _
      · refine x_aload_n C 154 0 dX3_readInto_154 rfl ?_
        refine x_aload_n C 155 0 dX3_readInto_155 rfl ?_
        refine fgc_X3_48 C 156 dX3_readInto_156 ?_
        refine fpc_X3_45 C 159 dX3_readInto_159 (fun s_159 => ?_)
        refine x_aload_n C 162 0 dX3_readInto_162 rfl ?_
        refine x_aload_n C 163 0 dX3_readInto_163 rfl ?_
        refine fgc_X3_51 C 164 dX3_readInto_164 ?_
        refine fpc_X3_33 C 167 dX3_readInto_167 (fun s_167 => ?_)
        exact hJ170 _
    refine x_icmp_lt C 137 147 dX3_readInto_137 (by decide) (fun _ => ?_) (fun _ => ?_)
    · refine Y_sub [0] rfl ?_
      exact hJ147 _
    · refine x_aload_n C 140 0 dX3_readInto_140 rfl ?_
      refine x_bipush C 141 dX3_readInto_141 kb_6 ?_
      refine x_iload_n C 143 1 dX3_readInto_143 rfl ?_
      refine Y_bnd1 (fun s_144 h144 => ?_)
      refine x_callVv C 144 [.int (6 : Int32), .int v2_123] [] rfl tw_565 mv_X3_failLater (Nat.le_of_ble_eq_true rfl) (Nat.le_of_ble_eq_true rfl) (Nat.le_of_ble_eq_true rfl) (Nat.le_of_ble_eq_true rfl) (kc_2 V _) rfl dX3_readInto_144 (c_X3_failLater V _ _ _ _ h144) ?_
      refine Y_sub [0] rfl ?_
      exact hJ147 _
  refine Y_sub [1, 3, 0] rfl ?_
  refine x_loop 49 (fun s : Int32 × Wd => s.2) (fun s : Int32 × Wd => [(0, .ref (zA (Zc V) 2)), (2, .int v2), (4, .int s.1)]) (fun E49 hb49 hx49 s => ?_) FU ((0 : Int32), s_43)
  obtain ⟨v4_49, s_49⟩ := s
  show Y K (Zc V) (M_X3_readInto_L49 g3 v2 v4_49 s_49) E49 s_49 49 [(0, .ref (zA (Zc V) 2)), (2, .int v2), (4, .int v4_49)] []
  unfold M_X3_readInto_L49
  refine x_iload C 49 2 dX3_readInto_49 rfl ?_
  refine x_sipush C 51 dX3_readInto_51 ks_400 ?_
  refine x_icmp_gt C 54 123 dX3_readInto_54 (by decide) (fun _ => ?_) (fun _ => ?_)
  · refine x_ex1 hx49 s_49 ?_
    refine Y_sub [0, 1] rfl ?_
    exact hJ123 _ _
  · refine x_aload_n C 57 0 dX3_readInto_57 rfl ?_
    refine fgc_X3_45 C 58 dX3_readInto_58 ?_
    refine x_if_ne C 61 123 dX3_readInto_61 (by decide) (fun _ => ?_) (fun _ => ?_)
    · refine x_ex1 hx49 s_49 ?_
      refine Y_sub [0, 1] rfl ?_
      exact hJ123 _ _
    · refine x_aload_n C 64 0 dX3_readInto_64 rfl ?_
      refine fgc_X3_12 C 65 dX3_readInto_65 ?_
      refine Y_bnd1 (fun r68 h68 => ?_)
      refine x_callVi C 68 [] [] rfl tw_525 mv_X6_kind (Nat.le_of_ble_eq_true rfl) (Nat.le_of_ble_eq_true rfl) (Nat.le_of_ble_eq_true rfl) (Nat.le_of_ble_eq_true rfl) (kc_6 V _) rfl dX3_readInto_68 (c_X6_kind V _ _  h68) ?_
      refine x_if_eq C 71 123 dX3_readInto_71 (by decide) (fun _ => ?_) (fun _ => ?_)
      · refine x_ex1 hx49 s_49 ?_
        refine Y_sub [0, 1] rfl ?_
        exact hJ123 _ _
      · refine x_aload_n C 74 0 dX3_readInto_74 rfl ?_
        refine fgc_X3_12 C 75 dX3_readInto_75 ?_
        refine Y_bnd1 (fun r78 h78 => ?_)
        refine x_callVi C 78 [] [] rfl tw_525 mv_X6_kind (Nat.le_of_ble_eq_true rfl) (Nat.le_of_ble_eq_true rfl) (Nat.le_of_ble_eq_true rfl) (Nat.le_of_ble_eq_true rfl) (kc_6 V _) rfl dX3_readInto_78 (c_X6_kind V _ _  h78) ?_
        refine x_istore C 81 (L' := [(5, .int r78), (0, .ref (zA (Zc V) 2)), (2, .int v2), (4, .int v4_49)]) dX3_readInto_81 (hN _ (Nat.le_of_ble_eq_true rfl)) rfl ?_
        refine x_iload C 83 0 dX3_readInto_83 rfl ?_
        refine x_bipush C 85 dX3_readInto_85 kb_102 ?_
        refine x_icmp_ne C 87 97 dX3_readInto_87 (by decide) (fun _ => ?_) (fun _ => ?_)
        · refine x_iload C 97 0 dX3_readInto_97 rfl ?_
          refine x_bipush C 99 dX3_readInto_99 kb_103 ?_
          refine x_icmp_ne C 101 111 dX3_readInto_101 (by decide) (fun _ => ?_) (fun _ => ?_)
          · refine x_aload_n C 111 1 dX3_readInto_111 rfl ?_
            refine x_iload C 112 0 dX3_readInto_112 rfl ?_
            refine Y_bnd1 (fun s_114 h114 => ?_)
            refine x_callVv C 114 [.int r78] [] rfl tw_614 mv_X3_tellNumber (Nat.le_of_ble_eq_true rfl) (Nat.le_of_ble_eq_true rfl) (Nat.le_of_ble_eq_true rfl) (Nat.le_of_ble_eq_true rfl) (kc_2 V _) rfl dX3_readInto_114 (c_X3_tellNumber V _ _ _ h114) ?_
            refine x_iinct C 117 3 (1 : Int32) (fun v4_117 => [(4, .int v4_117), (5, .int r78), (0, .ref (zA (Zc V) 2)), (2, .int v2)]) dX3_readInto_117 rfl ki_1 (hN _ (Nat.le_of_ble_eq_true rfl)) (fun _ => rfl) (fun v4_117 => ?_)
            refine x_goto C 120 49 dX3_readInto_120 (by decide) ?_
            refine Y_sub [2, 3, 0] rfl ?_
            exact x_back (v4_117, s_114) (hb49 (v4_117, s_114))
          · refine x_aload_n C 104 1 dX3_readInto_104 rfl ?_
            refine Y_bnd1 (fun s_105 h105 => ?_)
            refine x_callVv C 105 [] [] rfl tw_573 mv_X3_tellForm (Nat.le_of_ble_eq_true rfl) (Nat.le_of_ble_eq_true rfl) (Nat.le_of_ble_eq_true rfl) (Nat.le_of_ble_eq_true rfl) (kc_2 V _) rfl dX3_readInto_105 (c_X3_tellForm V _ _  h105) ?_
            refine x_goto C 108 117 dX3_readInto_108 (by decide) ?_
            refine x_iinct C 117 3 (1 : Int32) (fun v4_117 => [(4, .int v4_117), (5, .int r78), (0, .ref (zA (Zc V) 2)), (2, .int v2)]) dX3_readInto_117 rfl ki_1 (hN _ (Nat.le_of_ble_eq_true rfl)) (fun _ => rfl) (fun v4_117 => ?_)
            refine x_goto C 120 49 dX3_readInto_120 (by decide) ?_
            refine Y_sub [2, 3, 0] rfl ?_
            exact x_back (v4_117, s_105) (hb49 (v4_117, s_105))
        · refine x_aload_n C 90 1 dX3_readInto_90 rfl ?_
          refine Y_bnd1 (fun s_91 h91 => ?_)
          refine x_callVv C 91 [] [] rfl tw_529 mv_X3_tellCell (Nat.le_of_ble_eq_true rfl) (Nat.le_of_ble_eq_true rfl) (Nat.le_of_ble_eq_true rfl) (Nat.le_of_ble_eq_true rfl) (kc_2 V _) rfl dX3_readInto_91 (c_X3_tellCell V _ _  h91) ?_
          refine x_goto C 94 117 dX3_readInto_94 (by decide) ?_
          refine x_iinct C 117 3 (1 : Int32) (fun v4_117 => [(4, .int v4_117), (5, .int r78), (0, .ref (zA (Zc V) 2)), (2, .int v2)]) dX3_readInto_117 rfl ki_1 (hN _ (Nat.le_of_ble_eq_true rfl)) (fun _ => rfl) (fun v4_117 => ?_)
          refine x_goto C 120 49 dX3_readInto_120 (by decide) ?_
          refine Y_sub [2, 3, 0] rfl ?_
          exact x_back (v4_117, s_91) (hb49 (v4_117, s_91))
def M_X3_placeOfFault (σ : Wd) : Option Int32 :=
  some (gI σ 2 8)
set_option maxRecDepth 100000 in
set_option maxHeartbeats 4000000 in
theorem c_X3_placeOfFault (V : Ct_V) (l : Launch) (σ : Wd) {r : Int32} (h : M_X3_placeOfFault σ = some r) : Ct l (Zc V) yX3_placeOfFault cX3_placeOfFault 1 (some .int) 0 0 [.ref (zA (Zc V) 2)] σ (some (.int r)) σ := by
  refine Ct_intro (own := RX3) zc_ok (by decide +kernel) rfl (Nat.le_of_ble_eq_true rfl) [(0, .ref (zA (Zc V) 2))] rfl (fun K C R hKl hnL => ?_)
  have hN := nl_of hnL
  subst hKl
  refine Y_end h ?_
  unfold M_X3_placeOfFault
  refine x_aload_n C 0 0 dX3_placeOfFault_0 rfl ?_
  refine fgc_X3_33 C 1 dX3_placeOfFault_1 ?_
  exact x_iret1 C R 4 dX3_placeOfFault_4
def M_X4_line (σ : Wd) (g0 : Nat) (v2 : Int32) : Option Wd :=
  bnd1 (M_X1_setOf σ v2) fun r4 => bnd1 (M_X1_knownOf σ v2) fun r9 => bnd2 (M_X1_layLog σ r4 r9 (g0 + 3) 60) fun r16 s_16 => lt (uI s_16 g0 2 r16) fun s_19 => some s_19
set_option maxRecDepth 100000 in
set_option maxHeartbeats 4000000 in
theorem c_X4_line (V : Ct_V) (l : Launch) (σ : Wd) (g0 : Nat) (hg0 : famP g0) (v2 : Int32) {σ2 : Wd} (h : M_X4_line σ g0 v2 = some σ2) : Ct l (Zc V) yX4_line cX4_line 3 none 2 51 [.ref (zA (Zc V) g0), .ref (zA (Zc V) 28), .int v2] σ none σ2 := by
  refine Ct_intro (own := RX4) zc_ok (by decide +kernel) rfl (Nat.le_of_ble_eq_true rfl) [(0, .ref (zA (Zc V) g0)), (1, .ref (zA (Zc V) 28)), (2, .int v2)] rfl (fun K C R hKl hnL => ?_)
  have hN := nl_of hnL
  subst hKl
  refine Y_end h ?_
  unfold M_X4_line
  refine x_aload_n C 0 0 dX4_line_0 rfl ?_
  refine x_aload_n C 1 1 dX4_line_1 rfl ?_
  refine x_aload_n C 2 1 dX4_line_2 rfl ?_
  refine x_iload_n C 3 2 dX4_line_3 rfl ?_
  refine Y_bnd1 (fun r4 h4 => ?_)
  refine x_callVl C 4 [.int v2] [.ref (zA (Zc V) 28), .ref (zA (Zc V) g0)] rfl tw_752 mv_X1_setOf (Nat.le_of_ble_eq_true rfl) (Nat.le_of_ble_eq_true rfl) (Nat.le_of_ble_eq_true rfl) (Nat.le_of_ble_eq_true rfl) (kc_28 V _) rfl dX4_line_4 (c_X1_setOf V _ _ _ h4) ?_
  refine x_aload_n C 7 1 dX4_line_7 rfl ?_
  refine x_iload_n C 8 2 dX4_line_8 rfl ?_
  refine Y_bnd1 (fun r9 h9 => ?_)
  refine x_callVi C 9 [.int v2] [.long r4, .ref (zA (Zc V) 28), .ref (zA (Zc V) g0)] rfl tw_753 mv_X1_knownOf (Nat.le_of_ble_eq_true rfl) (Nat.le_of_ble_eq_true rfl) (Nat.le_of_ble_eq_true rfl) (Nat.le_of_ble_eq_true rfl) (kc_28 V _) rfl dX4_line_9 (c_X1_knownOf V _ _ _ h9) ?_
  refine x_aload_n C 12 0 dX4_line_12 rfl ?_
  refine fgf_X4_18 (hg0) C 13 dX4_line_13 ?_
  refine Y_bnd2 (fun r16 s_16 h16 => ?_)
  refine x_callVi C 16 [.long r4, .int r9, .ref (zA (Zc V) (g0 + 3))] [.ref (zA (Zc V) g0)] rfl tw_754 mv_X1_layLog (Nat.le_of_ble_eq_true rfl) (Nat.le_of_ble_eq_true rfl) (Nat.le_of_ble_eq_true rfl) (Nat.le_of_ble_eq_true rfl) (kc_28 V _) rfl dX4_line_16 (c_X1_layLog V _ _ _ _ _ _ (ltP_3 hg0) (kP_3 V hg0) h16) ?_
  refine fpf_X4_48 (hg0) C 19 dX4_line_19 (fun s_19 => ?_)
  exact x_vret C R 22 dX4_line_22
def M_X4_play_L24 (g0 : Nat) (g1 : Nat) (v4 : Int32) (σ : Wd) : Option ((Int32 × Wd) ⊕ (Wd)) :=
  if (gI σ g0 2) ≤ v4 then (some (.inr σ)) else (lt ((v4 + (1 : Int32)) * (6 : Int32)) fun v5_40 => chk (¬ (v5_40 - (6 : Int32)) < 0 ∧ ¬ v5_40 < 0 ∧ ¬ (6 : Int32) < 0 ∧ ix (v5_40 - (6 : Int32)) + ix (6 : Int32) ≤ 366 ∧ ix v5_40 + ix (6 : Int32) ≤ 366) (lt (rI σ (g0 + 6) (va_cpy (σ.1 (g0 + 6)) (σ.1 (g0 + 6)) (ix (v5_40 - (6 : Int32))) (ix v5_40) (ix (6 : Int32)))) fun s_59 => chk (ib v4 60) (bnd2 (M_X0_perform s_59 (g0 + 1) g1 (gI s_59 (g0 + 3) (ix v4)) (g0 + 6) 366 v5_40) fun r87 s_87 => chk (ib v4 60) (lt (uI s_87 (g0 + 4) (ix v4) r87) fun s_90 => chk (ib v4 60) (lt (uI s_90 (g0 + 5) (ix v4) (gI s_90 (g0 + 1) 3)) fun s_104 => lt (v4 + (1 : Int32)) fun v4_105 => some (.inl (v4_105, s_104)))))))
def M_X4_play (σ : Wd) (g0 : Nat) (g1 : Nat) (v3 : Int32) : Option Wd :=
  bnd1 (M_X4_line σ g0 v3) fun s_3 => chk (¬ (0 : Int32) < 0 ∧ ¬ (0 : Int32) < 0 ∧ ¬ (6 : Int32) < 0 ∧ ix (0 : Int32) + ix (6 : Int32) ≤ 6 ∧ ix (0 : Int32) + ix (6 : Int32) ≤ 366) (lt (rI s_3 (g0 + 6) (va_cpy (s_3.1 (g1 + 1)) (s_3.1 (g0 + 6)) (ix (0 : Int32)) (ix (0 : Int32)) (ix (6 : Int32)))) fun s_18 => bnd1 (iter (fun s : Int32 × Wd => M_X4_play_L24 g0 g1 s.1 s.2) FU ((0 : Int32), s_18)) (un1 fun sx_24 => (some sx_24)))
set_option maxRecDepth 100000 in
set_option maxHeartbeats 4000000 in
theorem c_X4_play (V : Ct_V) (l : Launch) (σ : Wd) (g0 : Nat) (hg0 : famP g0) (g1 : Nat) (hg1 : famT g1) (v3 : Int32) {σ2 : Wd} (h : M_X4_play σ g0 g1 v3 = some σ2) : Ct l (Zc V) yX4_play cX4_play 6 none 3 83 [.ref (zA (Zc V) g0), .ref (zA (Zc V) g1), .ref (zA (Zc V) 28), .int v3] σ none σ2 := by
  refine Ct_intro (own := RX4) zc_ok (by decide +kernel) rfl (Nat.le_of_ble_eq_true rfl) [(0, .ref (zA (Zc V) g0)), (1, .ref (zA (Zc V) g1)), (2, .ref (zA (Zc V) 28)), (3, .int v3)] rfl (fun K C R hKl hnL => ?_)
  have hN := nl_of hnL
  subst hKl
  refine Y_end h ?_
  unfold M_X4_play
  refine x_aload_n C 0 0 dX4_play_0 rfl ?_
  refine x_aload_n C 1 2 dX4_play_1 rfl ?_
  refine x_iload_n C 2 3 dX4_play_2 rfl ?_
  refine Y_bnd1 (fun s_3 h3 => ?_)
  refine x_callVv C 3 [.ref (zA (Zc V) 28), .int v3] [] rfl tw_748 mv_X4_line (Nat.le_of_ble_eq_true rfl) (Nat.le_of_ble_eq_true rfl) (Nat.le_of_ble_eq_true rfl) (ltP_0 hg0) (kP_0 V hg0 _) rfl dX4_play_3 (c_X4_line V _ _ _ hg0 _ h3) ?_
  refine x_aload_n C 6 1 dX4_play_6 rfl ?_
  refine fgf_X4_56 (hg1) C 7 dX4_play_7 ?_
  refine x_iconst C 10 dX4_play_10 ki_0 ?_
  refine x_aload_n C 11 0 dX4_play_11 rfl ?_
  refine fgf_X4_28 (hg0) C 12 dX4_play_12 ?_
  refine x_iconst C 15 dX4_play_15 ki_0 ?_
  refine x_bipush C 16 dX4_play_16 kb_6 ?_
  refine x_copyi C 18 (ltT_1 hg1) (kT_1 V hg1 _) (ltP_6 hg0) (kP_6 V hg0) tw_755 tw_647 tw_646 tw_56 (Nat.le_of_ble_eq_true rfl) (Nat.le_of_ble_eq_true rfl) dX4_play_18 (fun _ s_18 => ?_)
  refine x_iconst C 21 dX4_play_21 ki_0 ?_
  refine x_istore C 22 (L' := [(4, .int (0 : Int32)), (0, .ref (zA (Zc V) g0)), (1, .ref (zA (Zc V) g1)), (2, .ref (zA (Zc V) 28)), (3, .int v3)]) dX4_play_22 (hN _ (Nat.le_of_ble_eq_true rfl)) rfl ?_
  refine Y_sub [1, 2, 3, 0] rfl ?_
  refine x_loop 24 (fun s : Int32 × Wd => s.2) (fun s : Int32 × Wd => [(0, .ref (zA (Zc V) g0)), (1, .ref (zA (Zc V) g1)), (2, .ref (zA (Zc V) 28)), (4, .int s.1)]) (fun E24 hb24 hx24 s => ?_) FU ((0 : Int32), s_18)
  obtain ⟨v4_24, s_24⟩ := s
  show Y K (Zc V) (M_X4_play_L24 g0 g1 v4_24 s_24) E24 s_24 24 [(0, .ref (zA (Zc V) g0)), (1, .ref (zA (Zc V) g1)), (2, .ref (zA (Zc V) 28)), (4, .int v4_24)] []
  unfold M_X4_play_L24
  refine x_iload C 24 3 dX4_play_24 rfl ?_
  refine x_aload_n C 26 0 dX4_play_26 rfl ?_
  refine fgf_X4_48 (hg0) C 27 dX4_play_27 ?_
  refine x_icmp_ge C 30 111 dX4_play_30 (by decide) (fun _ => ?_) (fun _ => ?_)
  · refine x_ex1 hx24 s_24 ?_
    exact x_vret C R 111 dX4_play_111
  · refine x_iload C 33 3 dX4_play_33 rfl ?_
    refine x_iconst C 35 dX4_play_35 ki_1 ?_
    refine x_iadd C 36 dX4_play_36 ?_
    refine x_bipush C 37 dX4_play_37 kb_6 ?_
    refine x_imul C 39 dX4_play_39 ?_
    refine x_istoret C 40 (fun v5_40 => [(5, .int v5_40), (0, .ref (zA (Zc V) g0)), (1, .ref (zA (Zc V) g1)), (2, .ref (zA (Zc V) 28)), (4, .int v4_24)]) dX4_play_40 (hN _ (Nat.le_of_ble_eq_true rfl)) (fun _ => rfl) (fun v5_40 => ?_)
    refine x_aload_n C 42 1 dX4_play_42 rfl ?_
    refine fgf_X4_28 (hg0) C 43 dX4_play_43 ?_
    refine x_iload C 46 0 dX4_play_46 rfl ?_
    refine x_bipush C 48 dX4_play_48 kb_6 ?_
    refine x_isub C 50 dX4_play_50 ?_
    refine x_aload_n C 51 1 dX4_play_51 rfl ?_
    refine fgf_X4_28 (hg0) C 52 dX4_play_52 ?_
    refine x_iload C 55 0 dX4_play_55 rfl ?_
    refine x_bipush C 57 dX4_play_57 kb_6 ?_
    refine x_copyi C 59 (ltP_6 hg0) (kP_6 V hg0 _) (ltP_6 hg0) (kP_6 V hg0) tw_755 tw_647 tw_646 tw_56 (Nat.le_of_ble_eq_true rfl) (Nat.le_of_ble_eq_true rfl) dX4_play_59 (fun _ s_59 => ?_)
    refine x_aload_n C 62 1 dX4_play_62 rfl ?_
    refine fgf_X4_22 (hg0) C 63 dX4_play_63 ?_
    refine x_iload C 66 4 dX4_play_66 rfl ?_
    refine x_aload_n C 68 1 dX4_play_68 rfl ?_
    refine fgf_X4_12 (hg0) C 69 dX4_play_69 ?_
    refine x_aload_n C 72 2 dX4_play_72 rfl ?_
    refine x_aload_n C 73 3 dX4_play_73 rfl ?_
    refine x_aload_n C 74 1 dX4_play_74 rfl ?_
    refine fgf_X4_18 (hg0) C 75 dX4_play_75 ?_
    refine x_iload C 78 4 dX4_play_78 rfl ?_
    refine x_iald C 80 (ltP_3 hg0) (kP_3 V hg0 _) dX4_play_80 (fun _ => ?_)
    refine x_aload_n C 81 1 dX4_play_81 rfl ?_
    refine fgf_X4_28 (hg0) C 82 dX4_play_82 ?_
    refine x_iload C 85 0 dX4_play_85 rfl ?_
    refine Y_bnd2 (fun r87 s_87 h87 => ?_)
    refine x_callVi C 87 [.ref (zA (Zc V) g1), .ref (zA (Zc V) 28), .int (gI s_59 (g0 + 3) (ix v4_24)), .ref (zA (Zc V) (g0 + 6)), .int v5_40] [.int v4_24, .ref (zA (Zc V) (g0 + 4))] rfl tw_756 mv_X0_perform (Nat.le_of_ble_eq_true rfl) (Nat.le_of_ble_eq_true rfl) (Nat.le_of_ble_eq_true rfl) (ltD_0 (famD_of (hg0))) (kD_0 V (famD_of (hg0)) _) rfl dX4_play_87 (c_X0_perform V _ _ _ (famD_of (hg0)) _ hg1 _ _ _ (ltP_6 hg0) (kP_6 V hg0) _ h87) ?_
    refine x_iast C 90 (ltP_4 hg0) (kP_4 V hg0) dX4_play_90 (fun _ s_90 => ?_)
    refine x_aload_n C 91 1 dX4_play_91 rfl ?_
    refine fgf_X4_25 (hg0) C 92 dX4_play_92 ?_
    refine x_iload C 95 4 dX4_play_95 rfl ?_
    refine x_aload_n C 97 1 dX4_play_97 rfl ?_
    refine fgf_X4_12 (hg0) C 98 dX4_play_98 ?_
    refine fgf_X4_71 (famD_of (hg0)) C 101 dX4_play_101 ?_
    refine x_iast C 104 (ltP_5 hg0) (kP_5 V hg0) dX4_play_104 (fun _ s_104 => ?_)
    refine x_iinct C 105 4 (1 : Int32) (fun v4_105 => [(4, .int v4_105), (5, .int v5_40), (0, .ref (zA (Zc V) g0)), (1, .ref (zA (Zc V) g1)), (2, .ref (zA (Zc V) 28))]) dX4_play_105 rfl ki_1 (hN _ (Nat.le_of_ble_eq_true rfl)) (fun _ => rfl) (fun v4_105 => ?_)
    refine x_goto C 108 24 dX4_play_108 (by decide) ?_
    refine Y_sub [2, 3, 4, 0] rfl ?_
    exact x_back (v4_105, s_104) (hb24 (v4_105, s_104))
def M_X4_outcomeAt (σ : Wd) (g0 : Nat) (v1 : Int32) : Option Int32 :=
  if v1 < 0 then (some (-2 : Int32)) else (if (gI σ g0 2) ≤ v1 then (some (-2 : Int32)) else (chk (ib v1 60) (some (gI σ (g0 + 4) (ix v1)))))
set_option maxRecDepth 100000 in
set_option maxHeartbeats 4000000 in
theorem c_X4_outcomeAt (V : Ct_V) (l : Launch) (σ : Wd) (g0 : Nat) (hg0 : famP g0) (v1 : Int32) {r : Int32} (h : M_X4_outcomeAt σ g0 v1 = some r) : Ct l (Zc V) yX4_outcomeAt cX4_outcomeAt 2 (some .int) 0 0 [.ref (zA (Zc V) g0), .int v1] σ (some (.int r)) σ := by
  refine Ct_intro (own := RX4) zc_ok (by decide +kernel) rfl (Nat.le_of_ble_eq_true rfl) [(0, .ref (zA (Zc V) g0)), (1, .int v1)] rfl (fun K C R hKl hnL => ?_)
  have hN := nl_of hnL
  subst hKl
  refine Y_end h ?_
  unfold M_X4_outcomeAt
  refine x_iload_n C 0 1 dX4_outcomeAt_0 rfl ?_
  refine x_if_lt C 1 21 dX4_outcomeAt_1 (by decide) (fun _ => ?_) (fun _ => ?_)
  · refine x_bipush C 21 dX4_outcomeAt_21 kb_m2 ?_
    exact x_iret1 C R 23 dX4_outcomeAt_23
  · refine x_iload_n C 4 1 dX4_outcomeAt_4 rfl ?_
    refine x_aload_n C 5 0 dX4_outcomeAt_5 rfl ?_
    refine fgf_X4_48 (hg0) C 6 dX4_outcomeAt_6 ?_
    refine x_icmp_ge C 9 21 dX4_outcomeAt_9 (by decide) (fun _ => ?_) (fun _ => ?_)
    · refine x_bipush C 21 dX4_outcomeAt_21 kb_m2 ?_
      exact x_iret1 C R 23 dX4_outcomeAt_23
    · refine x_aload_n C 12 0 dX4_outcomeAt_12 rfl ?_
      refine fgf_X4_22 (hg0) C 13 dX4_outcomeAt_13 ?_
      refine x_iload_n C 16 1 dX4_outcomeAt_16 rfl ?_
      refine x_iald C 17 (ltP_4 hg0) (kP_4 V hg0 _) dX4_outcomeAt_17 (fun _ => ?_)
      refine x_goto C 18 23 dX4_outcomeAt_18 (by decide) ?_
      exact x_iret1 C R 23 dX4_outcomeAt_23
def M_X4_placeOf_L2 (g0 : Nat) (σ : Wd) (v1 : Int32) (v2 : Int32) : Option ((Int32) ⊕ ((Unit) ⊕ Int32)) :=
  if (gI σ g0 2) ≤ v2 then (some (.inr (.inl ()))) else (chk (ib v2 60) (if (gI σ (g0 + 3) (ix v2)) ≠ v1 then (lt (v2 + (1 : Int32)) fun v2_22 => some (.inl v2_22)) else (some (.inr (.inr v2)))))
def M_X4_placeOf (σ : Wd) (g0 : Nat) (v1 : Int32) : Option Int32 :=
  bnd1 (iter (fun s : Int32 => M_X4_placeOf_L2 g0 σ v1 s) FU (0 : Int32)) (sx (un0 (some (-1 : Int32))) (fun q => some q))
set_option maxRecDepth 100000 in
set_option maxHeartbeats 4000000 in
theorem c_X4_placeOf (V : Ct_V) (l : Launch) (σ : Wd) (g0 : Nat) (hg0 : famP g0) (v1 : Int32) {r : Int32} (h : M_X4_placeOf σ g0 v1 = some r) : Ct l (Zc V) yX4_placeOf cX4_placeOf 3 (some .int) 0 0 [.ref (zA (Zc V) g0), .int v1] σ (some (.int r)) σ := by
  refine Ct_intro (own := RX4) zc_ok (by decide +kernel) rfl (Nat.le_of_ble_eq_true rfl) [(0, .ref (zA (Zc V) g0)), (1, .int v1)] rfl (fun K C R hKl hnL => ?_)
  have hN := nl_of hnL
  subst hKl
  refine Y_end h ?_
  unfold M_X4_placeOf
  refine x_iconst C 0 dX4_placeOf_0 ki_0 ?_
  refine x_istore_n C 1 (L' := [(2, .int (0 : Int32)), (0, .ref (zA (Zc V) g0)), (1, .int v1)]) dX4_placeOf_1 rfl (hN _ (Nat.le_of_ble_eq_true rfl)) rfl ?_
  refine Y_sub [1, 2, 0] rfl ?_
  refine x_loop 2 (fun s : Int32 => σ) (fun s : Int32 => [(0, .ref (zA (Zc V) g0)), (1, .int v1), (2, .int s)]) (fun E2 hb2 hx2 s => ?_) FU (0 : Int32)
  obtain ⟨v2_2, rfl⟩ : ∃ z, z = s := ⟨s, rfl⟩
  show Y K (Zc V) (M_X4_placeOf_L2 g0 σ v1 v2_2) E2 σ 2 [(0, .ref (zA (Zc V) g0)), (1, .int v1), (2, .int v2_2)] []
  unfold M_X4_placeOf_L2
  refine x_iload_n C 2 2 dX4_placeOf_2 rfl ?_
  refine x_aload_n C 3 0 dX4_placeOf_3 rfl ?_
  refine fgf_X4_48 (hg0) C 4 dX4_placeOf_4 ?_
  refine x_icmp_ge C 7 28 dX4_placeOf_7 (by decide) (fun _ => ?_) (fun _ => ?_)
  · refine x_exl0 hx2 ?_
    refine x_iconst C 28 dX4_placeOf_28 ki_m1 ?_
    exact x_iret1 C R 29 dX4_placeOf_29
  · refine x_aload_n C 10 0 dX4_placeOf_10 rfl ?_
    refine fgf_X4_18 (hg0) C 11 dX4_placeOf_11 ?_
    refine x_iload_n C 14 2 dX4_placeOf_14 rfl ?_
    refine x_iald C 15 (ltP_3 hg0) (kP_3 V hg0 _) dX4_placeOf_15 (fun _ => ?_)
    refine x_iload_n C 16 1 dX4_placeOf_16 rfl ?_
    refine x_icmp_ne C 17 22 dX4_placeOf_17 (by decide) (fun _ => ?_) (fun _ => ?_)
    · refine x_iinct C 22 2 (1 : Int32) (fun v2_22 => [(2, .int v2_22), (0, .ref (zA (Zc V) g0)), (1, .int v1)]) dX4_placeOf_22 rfl ki_1 (hN _ (Nat.le_of_ble_eq_true rfl)) (fun _ => rfl) (fun v2_22 => ?_)
      refine x_goto C 25 2 dX4_placeOf_25 (by decide) ?_
      refine Y_sub [1, 2, 0] rfl ?_
      exact x_back v2_22 (hb2 v2_22)
    · refine x_iload_n C 20 2 dX4_placeOf_20 rfl ?_
      refine x_exr hx2 _ ?_
      exact x_iret1 C R 21 dX4_placeOf_21
def M_X4_cellBehind (σ : Wd) (g0 : Nat) (v1 : Int32) (v2 : Int32) : Option Int32 :=
  chk (ib (((if (gI σ g0 2) < v2 then (gI σ g0 2) else v2) * (6 : Int32)) + v1) 366) (some (gI σ (g0 + 6) (ix (((if (gI σ g0 2) < v2 then (gI σ g0 2) else v2) * (6 : Int32)) + v1))))
set_option maxRecDepth 100000 in
set_option maxHeartbeats 4000000 in
theorem c_X4_cellBehind (V : Ct_V) (l : Launch) (σ : Wd) (g0 : Nat) (hg0 : famP g0) (v1 : Int32) (v2 : Int32) {r : Int32} (h : M_X4_cellBehind σ g0 v1 v2 = some r) : Ct l (Zc V) yX4_cellBehind cX4_cellBehind 3 (some .int) 1 30 [.ref (zA (Zc V) g0), .int v1, .int v2] σ (some (.int r)) σ := by
  refine Ct_intro (own := RX4) zc_ok (by decide +kernel) rfl (Nat.le_of_ble_eq_true rfl) [(0, .ref (zA (Zc V) g0)), (1, .int v1), (2, .int v2)] rfl (fun K C R hKl hnL => ?_)
  have hN := nl_of hnL
  subst hKl
  refine Y_end h ?_
  unfold M_X4_cellBehind
  refine x_aload_n C 0 0 dX4_cellBehind_0 rfl ?_
  refine fgf_X4_28 (hg0) C 1 dX4_cellBehind_1 ?_
  refine x_iload_n C 4 2 dX4_cellBehind_4 rfl ?_
  refine x_aload_n C 5 0 dX4_cellBehind_5 rfl ?_
  refine fgf_X4_48 (hg0) C 6 dX4_cellBehind_6 ?_
  refine x_mmin C 9 tw_780 tw_414 tw_49 tw_415 (Nat.le_of_ble_eq_true rfl) (Nat.le_of_ble_eq_true rfl) dX4_cellBehind_9 ?_
  refine x_bipush C 12 dX4_cellBehind_12 kb_6 ?_
  refine x_imul C 14 dX4_cellBehind_14 ?_
  refine x_iload_n C 15 1 dX4_cellBehind_15 rfl ?_
  refine x_iadd C 16 dX4_cellBehind_16 ?_
  refine x_iald C 17 (ltP_6 hg0) (kP_6 V hg0 _) dX4_cellBehind_17 (fun _ => ?_)
  exact x_iret1 C R 18 dX4_cellBehind_18
def M_X4_lastOf (σ : Wd) (g0 : Nat) (v1 : Int32) : Option Int32 :=
  bnd1 (M_X4_cellBehind σ g0 v1 (gI σ g0 2)) fun r6 => some r6
set_option maxRecDepth 100000 in
set_option maxHeartbeats 4000000 in
theorem c_X4_lastOf (V : Ct_V) (l : Launch) (σ : Wd) (g0 : Nat) (hg0 : famP g0) (v1 : Int32) {r : Int32} (h : M_X4_lastOf σ g0 v1 = some r) : Ct l (Zc V) yX4_lastOf cX4_lastOf 2 (some .int) 2 52 [.ref (zA (Zc V) g0), .int v1] σ (some (.int r)) σ := by
  refine Ct_intro (own := RX4) zc_ok (by decide +kernel) rfl (Nat.le_of_ble_eq_true rfl) [(0, .ref (zA (Zc V) g0)), (1, .int v1)] rfl (fun K C R hKl hnL => ?_)
  have hN := nl_of hnL
  subst hKl
  refine Y_end h ?_
  unfold M_X4_lastOf
  refine x_aload_n C 0 0 dX4_lastOf_0 rfl ?_
  refine x_iload_n C 1 1 dX4_lastOf_1 rfl ?_
  refine x_aload_n C 2 0 dX4_lastOf_2 rfl ?_
  refine fgf_X4_48 (hg0) C 3 dX4_lastOf_3 ?_
  refine Y_bnd1 (fun r6 h6 => ?_)
  refine x_callVi C 6 [.int v1, .int (gI σ g0 2)] [] rfl tw_776 mv_X4_cellBehind (Nat.le_of_ble_eq_true rfl) (Nat.le_of_ble_eq_true rfl) (Nat.le_of_ble_eq_true rfl) (ltP_0 hg0) (kP_0 V hg0 _) rfl dX4_lastOf_6 (c_X4_cellBehind V _ _ _ hg0 _ _ h6) ?_
  exact x_iret1 C R 9 dX4_lastOf_9
def M_X4_setterOf_L7 (g0 : Nat) (σ : Wd) (v1 : Int32) (v2 : Int32) : Option ((Int32) ⊕ ((Unit) ⊕ Int32)) :=
  if v2 < 0 then (some (.inr (.inl ()))) else (chk (ib v2 60) (if (gI σ (g0 + 5) (ix v2)) ≠ v1 then (lt (v2 + (-1 : Int32)) fun v2_28 => some (.inl v2_28)) else (chk (ib v2 60) (some (.inr (.inr (gI σ (g0 + 3) (ix v2))))))))
def M_X4_setterOf (σ : Wd) (g0 : Nat) (v1 : Int32) : Option Int32 :=
  lt ((gI σ g0 2) - (1 : Int32)) fun v2_6 => bnd1 (iter (fun s : Int32 => M_X4_setterOf_L7 g0 σ v1 s) FU v2_6) (sx (un0 (some (-2 : Int32))) (fun q => some q))
set_option maxRecDepth 100000 in
set_option maxHeartbeats 4000000 in
theorem c_X4_setterOf (V : Ct_V) (l : Launch) (σ : Wd) (g0 : Nat) (hg0 : famP g0) (v1 : Int32) {r : Int32} (h : M_X4_setterOf σ g0 v1 = some r) : Ct l (Zc V) yX4_setterOf cX4_setterOf 3 (some .int) 0 0 [.ref (zA (Zc V) g0), .int v1] σ (some (.int r)) σ := by
  refine Ct_intro (own := RX4) zc_ok (by decide +kernel) rfl (Nat.le_of_ble_eq_true rfl) [(0, .ref (zA (Zc V) g0)), (1, .int v1)] rfl (fun K C R hKl hnL => ?_)
  have hN := nl_of hnL
  subst hKl
  refine Y_end h ?_
  unfold M_X4_setterOf
  refine x_aload_n C 0 0 dX4_setterOf_0 rfl ?_
  refine fgf_X4_48 (hg0) C 1 dX4_setterOf_1 ?_
  refine x_iconst C 4 dX4_setterOf_4 ki_1 ?_
  refine x_isub C 5 dX4_setterOf_5 ?_
  refine x_istore_nt C 6 (fun v2_6 => [(2, .int v2_6), (0, .ref (zA (Zc V) g0)), (1, .int v1)]) dX4_setterOf_6 rfl (hN _ (Nat.le_of_ble_eq_true rfl)) (fun _ => rfl) (fun v2_6 => ?_)
  refine Y_sub [1, 2, 0] rfl ?_
  refine x_loop 7 (fun s : Int32 => σ) (fun s : Int32 => [(0, .ref (zA (Zc V) g0)), (1, .int v1), (2, .int s)]) (fun E7 hb7 hx7 s => ?_) FU v2_6
  obtain ⟨v2_7, rfl⟩ : ∃ z, z = s := ⟨s, rfl⟩
  show Y K (Zc V) (M_X4_setterOf_L7 g0 σ v1 v2_7) E7 σ 7 [(0, .ref (zA (Zc V) g0)), (1, .int v1), (2, .int v2_7)] []
  unfold M_X4_setterOf_L7
  refine x_iload_n C 7 2 dX4_setterOf_7 rfl ?_
  refine x_if_lt C 8 34 dX4_setterOf_8 (by decide) (fun _ => ?_) (fun _ => ?_)
  · refine x_exl0 hx7 ?_
    refine x_bipush C 34 dX4_setterOf_34 kb_m2 ?_
    exact x_iret1 C R 36 dX4_setterOf_36
  · refine x_aload_n C 11 0 dX4_setterOf_11 rfl ?_
    refine fgf_X4_25 (hg0) C 12 dX4_setterOf_12 ?_
    refine x_iload_n C 15 2 dX4_setterOf_15 rfl ?_
    refine x_iald C 16 (ltP_5 hg0) (kP_5 V hg0 _) dX4_setterOf_16 (fun _ => ?_)
    refine x_iload_n C 17 1 dX4_setterOf_17 rfl ?_
    refine x_icmp_ne C 18 28 dX4_setterOf_18 (by decide) (fun _ => ?_) (fun _ => ?_)
    · refine x_iinct C 28 2 (-1 : Int32) (fun v2_28 => [(2, .int v2_28), (0, .ref (zA (Zc V) g0)), (1, .int v1)]) dX4_setterOf_28 rfl ki_m1 (hN _ (Nat.le_of_ble_eq_true rfl)) (fun _ => rfl) (fun v2_28 => ?_)
      refine x_goto C 31 7 dX4_setterOf_31 (by decide) ?_
      refine Y_sub [1, 2, 0] rfl ?_
      exact x_back v2_28 (hb7 v2_28)
    · refine x_aload_n C 21 0 dX4_setterOf_21 rfl ?_
      refine fgf_X4_18 (hg0) C 22 dX4_setterOf_22 ?_
      refine x_iload_n C 25 2 dX4_setterOf_25 rfl ?_
      refine x_iald C 26 (ltP_3 hg0) (kP_3 V hg0 _) dX4_setterOf_26 (fun _ => ?_)
      refine x_exr hx7 _ ?_
      exact x_iret1 C R 27 dX4_setterOf_27
def M_X4_manyOf_L4 (g0 : Nat) (σ : Wd) (v1 : Int32) (v2 : Int32) (v3 : Int32) : Option ((Int32 × Int32) ⊕ (Int32)) :=
  if (gI σ g0 2) ≤ v3 then (some (.inr v2)) else (chk (ib v3 60) (if (gI σ (g0 + 4) (ix v3)) ≠ v1 then (lt (v3 + (1 : Int32)) fun v3_25 => some (.inl (v2, v3_25))) else (lt (v2 + (1 : Int32)) fun v2_22 => lt (v3 + (1 : Int32)) fun v3_25 => some (.inl (v2_22, v3_25)))))
def M_X4_manyOf (σ : Wd) (g0 : Nat) (v1 : Int32) : Option Int32 :=
  bnd1 (iter (fun s : Int32 × Int32 => M_X4_manyOf_L4 g0 σ v1 s.1 s.2) FU ((0 : Int32), (0 : Int32))) (un1 fun x2_4 => (some x2_4))
set_option maxRecDepth 100000 in
set_option maxHeartbeats 4000000 in
theorem c_X4_manyOf (V : Ct_V) (l : Launch) (σ : Wd) (g0 : Nat) (hg0 : famP g0) (v1 : Int32) {r : Int32} (h : M_X4_manyOf σ g0 v1 = some r) : Ct l (Zc V) yX4_manyOf cX4_manyOf 4 (some .int) 0 0 [.ref (zA (Zc V) g0), .int v1] σ (some (.int r)) σ := by
  refine Ct_intro (own := RX4) zc_ok (by decide +kernel) rfl (Nat.le_of_ble_eq_true rfl) [(0, .ref (zA (Zc V) g0)), (1, .int v1)] rfl (fun K C R hKl hnL => ?_)
  have hN := nl_of hnL
  subst hKl
  refine Y_end h ?_
  unfold M_X4_manyOf
  refine x_iconst C 0 dX4_manyOf_0 ki_0 ?_
  refine x_istore_n C 1 (L' := [(2, .int (0 : Int32)), (0, .ref (zA (Zc V) g0)), (1, .int v1)]) dX4_manyOf_1 rfl (hN _ (Nat.le_of_ble_eq_true rfl)) rfl ?_
  refine x_iconst C 2 dX4_manyOf_2 ki_0 ?_
  refine x_istore_n C 3 (L' := [(3, .int (0 : Int32)), (2, .int (0 : Int32)), (0, .ref (zA (Zc V) g0)), (1, .int v1)]) dX4_manyOf_3 rfl (hN _ (Nat.le_of_ble_eq_true rfl)) rfl ?_
  refine Y_sub [2, 3, 1, 0] rfl ?_
  refine x_loop 4 (fun s : Int32 × Int32 => σ) (fun s : Int32 × Int32 => [(0, .ref (zA (Zc V) g0)), (1, .int v1), (2, .int s.1), (3, .int s.2)]) (fun E4 hb4 hx4 s => ?_) FU ((0 : Int32), (0 : Int32))
  obtain ⟨v2_4, v3_4⟩ := s
  show Y K (Zc V) (M_X4_manyOf_L4 g0 σ v1 v2_4 v3_4) E4 σ 4 [(0, .ref (zA (Zc V) g0)), (1, .int v1), (2, .int v2_4), (3, .int v3_4)] []
  unfold M_X4_manyOf_L4
  refine x_iload_n C 4 3 dX4_manyOf_4 rfl ?_
  refine x_aload_n C 5 0 dX4_manyOf_5 rfl ?_
  refine fgf_X4_48 (hg0) C 6 dX4_manyOf_6 ?_
  refine x_icmp_ge C 9 31 dX4_manyOf_9 (by decide) (fun _ => ?_) (fun _ => ?_)
  · refine x_ex1 hx4 v2_4 ?_
    refine x_iload_n C 31 2 dX4_manyOf_31 rfl ?_
    exact x_iret1 C R 32 dX4_manyOf_32
  · refine x_aload_n C 12 0 dX4_manyOf_12 rfl ?_
    refine fgf_X4_22 (hg0) C 13 dX4_manyOf_13 ?_
    refine x_iload_n C 16 3 dX4_manyOf_16 rfl ?_
    refine x_iald C 17 (ltP_4 hg0) (kP_4 V hg0 _) dX4_manyOf_17 (fun _ => ?_)
    refine x_iload_n C 18 1 dX4_manyOf_18 rfl ?_
    refine x_icmp_ne C 19 25 dX4_manyOf_19 (by decide) (fun _ => ?_) (fun _ => ?_)
    · refine x_iinct C 25 3 (1 : Int32) (fun v3_25 => [(3, .int v3_25), (0, .ref (zA (Zc V) g0)), (1, .int v1), (2, .int v2_4)]) dX4_manyOf_25 rfl ki_1 (hN _ (Nat.le_of_ble_eq_true rfl)) (fun _ => rfl) (fun v3_25 => ?_)
      refine x_goto C 28 4 dX4_manyOf_28 (by decide) ?_
      refine Y_sub [1, 2, 3, 0] rfl ?_
      exact x_back (v2_4, v3_25) (hb4 (v2_4, v3_25))
    · refine x_iinct C 22 2 (1 : Int32) (fun v2_22 => [(2, .int v2_22), (0, .ref (zA (Zc V) g0)), (1, .int v1), (3, .int v3_4)]) dX4_manyOf_22 rfl ki_1 (hN _ (Nat.le_of_ble_eq_true rfl)) (fun _ => rfl) (fun v2_22 => ?_)
      refine x_iinct C 25 3 (1 : Int32) (fun v3_25 => [(3, .int v3_25), (2, .int v2_22), (0, .ref (zA (Zc V) g0)), (1, .int v1)]) dX4_manyOf_25 rfl ki_1 (hN _ (Nat.le_of_ble_eq_true rfl)) (fun _ => rfl) (fun v3_25 => ?_)
      refine x_goto C 28 4 dX4_manyOf_28 (by decide) ?_
      refine Y_sub [2, 3, 1, 0] rfl ?_
      exact x_back (v2_22, v3_25) (hb4 (v2_22, v3_25))
def M_X4_isAsAheadOf_L2 (g0 : Nat) (σ : Wd) (v1 : Int32) (v2 : Int32) (v3 : Int32) : Option ((Int32) ⊕ ((Unit) ⊕ Int32)) :=
  if v2 ≤ v3 then (some (.inr (.inl ()))) else (chk (ib v3 6) (chk (ib ((v1 * (6 : Int32)) + v3) 366) (if (gI σ (g0 + 7) (ix v3)) = (gI σ (g0 + 6) (ix ((v1 * (6 : Int32)) + v3))) then (lt (v3 + (1 : Int32)) fun v3_29 => some (.inl v3_29)) else (some (.inr (.inr (0 : Int32)))))))
def M_X4_isAsAheadOf (σ : Wd) (g0 : Nat) (v1 : Int32) (v2 : Int32) : Option Int32 :=
  bnd1 (iter (fun s : Int32 => M_X4_isAsAheadOf_L2 g0 σ v1 v2 s) FU (0 : Int32)) (sx (un0 (some (1 : Int32))) (fun q => some q))
set_option maxRecDepth 100000 in
set_option maxHeartbeats 4000000 in
theorem c_X4_isAsAheadOf (V : Ct_V) (l : Launch) (σ : Wd) (g0 : Nat) (hg0 : famP g0) (v1 : Int32) (v2 : Int32) {r : Int32} (h : M_X4_isAsAheadOf σ g0 v1 v2 = some r) : Ct l (Zc V) yX4_isAsAheadOf cX4_isAsAheadOf 4 (some .boolean) 0 0 [.ref (zA (Zc V) g0), .int v1, .int v2] σ (some (.int r)) σ := by
  refine Ct_intro (own := RX4) zc_ok (by decide +kernel) rfl (Nat.le_of_ble_eq_true rfl) [(0, .ref (zA (Zc V) g0)), (1, .int v1), (2, .int v2)] rfl (fun K C R hKl hnL => ?_)
  have hN := nl_of hnL
  subst hKl
  refine Y_end h ?_
  unfold M_X4_isAsAheadOf
  refine x_iconst C 0 dX4_isAsAheadOf_0 ki_0 ?_
  refine x_istore_n C 1 (L' := [(3, .int (0 : Int32)), (0, .ref (zA (Zc V) g0)), (1, .int v1), (2, .int v2)]) dX4_isAsAheadOf_1 rfl (hN _ (Nat.le_of_ble_eq_true rfl)) rfl ?_
  refine Y_sub [1, 2, 3, 0] rfl ?_
  refine x_loop 2 (fun s : Int32 => σ) (fun s : Int32 => [(0, .ref (zA (Zc V) g0)), (1, .int v1), (2, .int v2), (3, .int s)]) (fun E2 hb2 hx2 s => ?_) FU (0 : Int32)
  obtain ⟨v3_2, rfl⟩ : ∃ z, z = s := ⟨s, rfl⟩
  show Y K (Zc V) (M_X4_isAsAheadOf_L2 g0 σ v1 v2 v3_2) E2 σ 2 [(0, .ref (zA (Zc V) g0)), (1, .int v1), (2, .int v2), (3, .int v3_2)] []
  unfold M_X4_isAsAheadOf_L2
  refine x_iload_n C 2 3 dX4_isAsAheadOf_2 rfl ?_
  refine x_iload_n C 3 2 dX4_isAsAheadOf_3 rfl ?_
  refine x_icmp_ge C 4 35 dX4_isAsAheadOf_4 (by decide) (fun _ => ?_) (fun _ => ?_)
  · refine x_exl0 hx2 ?_
    refine x_iconst C 35 dX4_isAsAheadOf_35 ki_1 ?_
    exact x_zret1 C R 36 (zb_nar (r := (1 : Int32)) (Or.inr rfl)) dX4_isAsAheadOf_36
  · refine x_aload_n C 7 0 dX4_isAsAheadOf_7 rfl ?_
    refine fgf_X4_31 (hg0) C 8 dX4_isAsAheadOf_8 ?_
    refine x_iload_n C 11 3 dX4_isAsAheadOf_11 rfl ?_
    refine x_iald C 12 (ltP_7 hg0) (kP_7 V hg0 _) dX4_isAsAheadOf_12 (fun _ => ?_)
    refine x_aload_n C 13 0 dX4_isAsAheadOf_13 rfl ?_
    refine fgf_X4_28 (hg0) C 14 dX4_isAsAheadOf_14 ?_
    refine x_iload_n C 17 1 dX4_isAsAheadOf_17 rfl ?_
    refine x_bipush C 18 dX4_isAsAheadOf_18 kb_6 ?_
    refine x_imul C 20 dX4_isAsAheadOf_20 ?_
    refine x_iload_n C 21 3 dX4_isAsAheadOf_21 rfl ?_
    refine x_iadd C 22 dX4_isAsAheadOf_22 ?_
    refine x_iald C 23 (ltP_6 hg0) (kP_6 V hg0 _) dX4_isAsAheadOf_23 (fun _ => ?_)
    refine x_icmp_eq C 24 29 dX4_isAsAheadOf_24 (by decide) (fun _ => ?_) (fun _ => ?_)
    · refine x_iinct C 29 3 (1 : Int32) (fun v3_29 => [(3, .int v3_29), (0, .ref (zA (Zc V) g0)), (1, .int v1), (2, .int v2)]) dX4_isAsAheadOf_29 rfl ki_1 (hN _ (Nat.le_of_ble_eq_true rfl)) (fun _ => rfl) (fun v3_29 => ?_)
      refine x_goto C 32 2 dX4_isAsAheadOf_32 (by decide) ?_
      refine Y_sub [1, 2, 3, 0] rfl ?_
      exact x_back v3_29 (hb2 v3_29)
    · refine x_iconst C 27 dX4_isAsAheadOf_27 ki_0 ?_
      refine x_exr hx2 _ ?_
      exact x_zret1 C R 28 (zb_nar (r := (0 : Int32)) (Or.inl rfl)) dX4_isAsAheadOf_28
def M_X4_weigh_L47 (g0 : Nat) (g1 : Nat) (v4 : Int32) (σ : Wd) : Option ((Int32 × Wd) ⊕ (Wd)) :=
  if (gI σ g0 2) ≤ v4 then (some (.inr σ)) else (bnd1 (M_X4_isAsAheadOf σ g0 v4 (gI σ g1 3)) fun r63 => if r63 ≠ 0 then (some (.inr σ)) else (chk (ib v4 60) (bnd2 (M_X0_perform σ (g0 + 1) g1 (gI σ (g0 + 3) (ix v4)) (g0 + 7) 6 (0 : Int32)) fun r87 s_87 => chk (ib v4 60) (if r87 = (gI s_87 (g0 + 4) (ix v4)) then (lt (v4 + (1 : Int32)) fun v4_134 => some (.inl (v4_134, s_87))) else (lt (uI s_87 g0 7 ((gI s_87 g0 7) + (1 : Int32))) fun s_111 => if (gI s_111 g0 8) ≠ (-2 : Int32) then (lt (v4 + (1 : Int32)) fun v4_134 => some (.inl (v4_134, s_111))) else (chk (ib v4 60) (lt (uI s_111 g0 8 (gI s_111 (g0 + 3) (ix v4))) fun s_131 => lt (v4 + (1 : Int32)) fun v4_134 => some (.inl (v4_134, s_131)))))))))
def M_X4_weigh (σ : Wd) (g0 : Nat) (g1 : Nat) (v3 : Int32) : Option Wd :=
  lt (uI σ g0 7 (0 : Int32)) fun s_2 => lt (uI s_2 g0 8 (-2 : Int32)) fun s_8 => if v3 < 0 then (some s_8) else (if v3 < (gI s_8 g0 2) then (chk (¬ (v3 * (6 : Int32)) < 0 ∧ ¬ (0 : Int32) < 0 ∧ ¬ (6 : Int32) < 0 ∧ ix (v3 * (6 : Int32)) + ix (6 : Int32) ≤ 366 ∧ ix (0 : Int32) + ix (6 : Int32) ≤ 6) (lt (rI s_8 (g0 + 7) (va_cpy (s_8.1 (g0 + 6)) (s_8.1 (g0 + 7)) (ix (v3 * (6 : Int32))) (ix (0 : Int32)) (ix (6 : Int32)))) fun s_39 => lt (v3 + (1 : Int32)) fun v4_45 => bnd1 (iter (fun s : Int32 × Wd => M_X4_weigh_L47 g0 g1 s.1 s.2) FU (v4_45, s_39)) (un1 fun sx_47 => (some sx_47)))) else (some s_8))
set_option maxRecDepth 100000 in
set_option maxHeartbeats 4000000 in
theorem c_X4_weigh (V : Ct_V) (l : Launch) (σ : Wd) (g0 : Nat) (hg0 : famP g0) (g1 : Nat) (hg1 : famT g1) (v3 : Int32) {σ2 : Wd} (h : M_X4_weigh σ g0 g1 v3 = some σ2) : Ct l (Zc V) yX4_weigh cX4_weigh 6 none 3 83 [.ref (zA (Zc V) g0), .ref (zA (Zc V) g1), .ref (zA (Zc V) 28), .int v3] σ none σ2 := by
  refine Ct_intro (own := RX4) zc_ok (by decide +kernel) rfl (Nat.le_of_ble_eq_true rfl) [(0, .ref (zA (Zc V) g0)), (1, .ref (zA (Zc V) g1)), (2, .ref (zA (Zc V) 28)), (3, .int v3)] rfl (fun K C R hKl hnL => ?_)
  have hN := nl_of hnL
  subst hKl
  refine Y_end h ?_
  unfold M_X4_weigh
  refine x_aload_n C 0 0 dX4_weigh_0 rfl ?_
  refine x_iconst C 1 dX4_weigh_1 ki_0 ?_
  refine fpf_X4_83 (hg0) C 2 dX4_weigh_2 (fun s_2 => ?_)
  refine x_aload_n C 5 0 dX4_weigh_5 rfl ?_
  refine x_bipush C 6 dX4_weigh_6 kb_m2 ?_
  refine fpf_X4_86 (hg0) C 8 dX4_weigh_8 (fun s_8 => ?_)
  refine x_iload_n C 11 3 dX4_weigh_11 rfl ?_
  refine x_if_lt C 12 23 dX4_weigh_12 (by decide) (fun _ => ?_) (fun _ => ?_)
  · exact x_vret C R 23 dX4_weigh_23
  · refine x_iload_n C 15 3 dX4_weigh_15 rfl ?_
    refine x_aload_n C 16 0 dX4_weigh_16 rfl ?_
    refine fgf_X4_48 (hg0) C 17 dX4_weigh_17 ?_
    refine x_icmp_lt C 20 24 dX4_weigh_20 (by decide) (fun _ => ?_) (fun _ => ?_)
    · refine x_aload_n C 24 0 dX4_weigh_24 rfl ?_
      refine fgf_X4_28 (hg0) C 25 dX4_weigh_25 ?_
      refine x_iload_n C 28 3 dX4_weigh_28 rfl ?_
      refine x_bipush C 29 dX4_weigh_29 kb_6 ?_
      refine x_imul C 31 dX4_weigh_31 ?_
      refine x_aload_n C 32 0 dX4_weigh_32 rfl ?_
      refine fgf_X4_31 (hg0) C 33 dX4_weigh_33 ?_
      refine x_iconst C 36 dX4_weigh_36 ki_0 ?_
      refine x_bipush C 37 dX4_weigh_37 kb_6 ?_
      refine x_copyi C 39 (ltP_6 hg0) (kP_6 V hg0 _) (ltP_7 hg0) (kP_7 V hg0) tw_755 tw_647 tw_646 tw_56 (Nat.le_of_ble_eq_true rfl) (Nat.le_of_ble_eq_true rfl) dX4_weigh_39 (fun _ s_39 => ?_)
      refine x_iload_n C 42 3 dX4_weigh_42 rfl ?_
      refine x_iconst C 43 dX4_weigh_43 ki_1 ?_
      refine x_iadd C 44 dX4_weigh_44 ?_
      refine x_istoret C 45 (fun v4_45 => [(4, .int v4_45), (0, .ref (zA (Zc V) g0)), (1, .ref (zA (Zc V) g1)), (2, .ref (zA (Zc V) 28)), (3, .int v3)]) dX4_weigh_45 (hN _ (Nat.le_of_ble_eq_true rfl)) (fun _ => rfl) (fun v4_45 => ?_)
      refine Y_sub [1, 2, 3, 0] rfl ?_
      refine x_loop 47 (fun s : Int32 × Wd => s.2) (fun s : Int32 × Wd => [(0, .ref (zA (Zc V) g0)), (1, .ref (zA (Zc V) g1)), (2, .ref (zA (Zc V) 28)), (4, .int s.1)]) (fun E47 hb47 hx47 s => ?_) FU (v4_45, s_39)
      obtain ⟨v4_47, s_47⟩ := s
      show Y K (Zc V) (M_X4_weigh_L47 g0 g1 v4_47 s_47) E47 s_47 47 [(0, .ref (zA (Zc V) g0)), (1, .ref (zA (Zc V) g1)), (2, .ref (zA (Zc V) 28)), (4, .int v4_47)] []
      unfold M_X4_weigh_L47
      refine x_iload C 47 3 dX4_weigh_47 rfl ?_
      refine x_aload_n C 49 0 dX4_weigh_49 rfl ?_
      refine fgf_X4_48 (hg0) C 50 dX4_weigh_50 ?_
      refine x_icmp_ge C 53 140 dX4_weigh_53 (by decide) (fun _ => ?_) (fun _ => ?_)
      · refine x_ex1 hx47 s_47 ?_
        exact x_vret C R 140 dX4_weigh_140
      · refine x_aload_n C 56 0 dX4_weigh_56 rfl ?_
        refine x_iload C 57 3 dX4_weigh_57 rfl ?_
        refine x_aload_n C 59 1 dX4_weigh_59 rfl ?_
        refine fgf_X4_89 (hg1) C 60 dX4_weigh_60 ?_
        refine Y_bnd1 (fun r63 h63 => ?_)
        refine x_callVi C 63 [.int v4_47, .int (gI s_47 g1 3)] [] rfl tw_1000 mv_X4_isAsAheadOf (Nat.le_of_ble_eq_true rfl) (Nat.le_of_ble_eq_true rfl) (Nat.le_of_ble_eq_true rfl) (ltP_0 hg0) (kP_0 V hg0 _) rfl dX4_weigh_63 (c_X4_isAsAheadOf V _ _ _ hg0 _ _ h63) ?_
        refine x_if_ne C 66 140 dX4_weigh_66 (by decide) (fun _ => ?_) (fun _ => ?_)
        · refine x_ex1 hx47 s_47 ?_
          exact x_vret C R 140 dX4_weigh_140
        · refine x_aload_n C 69 0 dX4_weigh_69 rfl ?_
          refine fgf_X4_12 (hg0) C 70 dX4_weigh_70 ?_
          refine x_aload_n C 73 1 dX4_weigh_73 rfl ?_
          refine x_aload_n C 74 2 dX4_weigh_74 rfl ?_
          refine x_aload_n C 75 0 dX4_weigh_75 rfl ?_
          refine fgf_X4_18 (hg0) C 76 dX4_weigh_76 ?_
          refine x_iload C 79 3 dX4_weigh_79 rfl ?_
          refine x_iald C 81 (ltP_3 hg0) (kP_3 V hg0 _) dX4_weigh_81 (fun _ => ?_)
          refine x_aload_n C 82 0 dX4_weigh_82 rfl ?_
          refine fgf_X4_31 (hg0) C 83 dX4_weigh_83 ?_
          refine x_iconst C 86 dX4_weigh_86 ki_0 ?_
          refine Y_bnd2 (fun r87 s_87 h87 => ?_)
          refine x_callVi C 87 [.ref (zA (Zc V) g1), .ref (zA (Zc V) 28), .int (gI s_47 (g0 + 3) (ix v4_47)), .ref (zA (Zc V) (g0 + 7)), .int (0 : Int32)] [] rfl tw_756 mv_X0_perform (Nat.le_of_ble_eq_true rfl) (Nat.le_of_ble_eq_true rfl) (Nat.le_of_ble_eq_true rfl) (ltD_0 (famD_of (hg0))) (kD_0 V (famD_of (hg0)) _) rfl dX4_weigh_87 (c_X0_perform V _ _ _ (famD_of (hg0)) _ hg1 _ _ _ (ltP_7 hg0) (kP_7 V hg0) _ h87) ?_
          refine x_istore C 90 (L' := [(5, .int r87), (0, .ref (zA (Zc V) g0)), (1, .ref (zA (Zc V) g1)), (2, .ref (zA (Zc V) 28)), (4, .int v4_47)]) dX4_weigh_90 (hN _ (Nat.le_of_ble_eq_true rfl)) rfl ?_
          refine x_iload C 92 0 dX4_weigh_92 rfl ?_
          refine x_aload_n C 94 1 dX4_weigh_94 rfl ?_
          refine fgf_X4_22 (hg0) C 95 dX4_weigh_95 ?_
          refine x_iload C 98 4 dX4_weigh_98 rfl ?_
          refine x_iald C 100 (ltP_4 hg0) (kP_4 V hg0 _) dX4_weigh_100 (fun _ => ?_)
          refine x_icmp_eq C 101 134 dX4_weigh_101 (by decide) (fun _ => ?_) (fun _ => ?_)
          · refine x_iinct C 134 4 (1 : Int32) (fun v4_134 => [(4, .int v4_134), (5, .int r87), (0, .ref (zA (Zc V) g0)), (1, .ref (zA (Zc V) g1)), (2, .ref (zA (Zc V) 28))]) dX4_weigh_134 rfl ki_1 (hN _ (Nat.le_of_ble_eq_true rfl)) (fun _ => rfl) (fun v4_134 => ?_)
            refine x_goto C 137 47 dX4_weigh_137 (by decide) ?_
            refine Y_sub [2, 3, 4, 0] rfl ?_
            exact x_back (v4_134, s_87) (hb47 (v4_134, s_87))
          · refine x_aload_n C 104 1 dX4_weigh_104 rfl ?_
            refine x_dup C 105 dX4_weigh_105 rfl ?_
            refine fgf_X4_83 (hg0) C 106 dX4_weigh_106 ?_
            refine x_iconst C 109 dX4_weigh_109 ki_1 ?_
            refine x_iadd C 110 dX4_weigh_110 ?_
            refine fpf_X4_83 (hg0) C 111 dX4_weigh_111 (fun s_111 => ?_)
            refine x_aload_n C 114 1 dX4_weigh_114 rfl ?_
            refine fgf_X4_86 (hg0) C 115 dX4_weigh_115 ?_
            refine x_bipush C 118 dX4_weigh_118 kb_m2 ?_
            refine x_icmp_ne C 120 134 dX4_weigh_120 (by decide) (fun _ => ?_) (fun _ => ?_)
            · refine x_iinct C 134 4 (1 : Int32) (fun v4_134 => [(4, .int v4_134), (5, .int r87), (0, .ref (zA (Zc V) g0)), (1, .ref (zA (Zc V) g1)), (2, .ref (zA (Zc V) 28))]) dX4_weigh_134 rfl ki_1 (hN _ (Nat.le_of_ble_eq_true rfl)) (fun _ => rfl) (fun v4_134 => ?_)
              refine x_goto C 137 47 dX4_weigh_137 (by decide) ?_
              refine Y_sub [2, 3, 4, 0] rfl ?_
              exact x_back (v4_134, s_111) (hb47 (v4_134, s_111))
            · refine x_aload_n C 123 1 dX4_weigh_123 rfl ?_
              refine x_aload_n C 124 1 dX4_weigh_124 rfl ?_
              refine fgf_X4_18 (hg0) C 125 dX4_weigh_125 ?_
              refine x_iload C 128 4 dX4_weigh_128 rfl ?_
              refine x_iald C 130 (ltP_3 hg0) (kP_3 V hg0 _) dX4_weigh_130 (fun _ => ?_)
              refine fpf_X4_86 (hg0) C 131 dX4_weigh_131 (fun s_131 => ?_)
              refine x_iinct C 134 4 (1 : Int32) (fun v4_134 => [(4, .int v4_134), (5, .int r87), (0, .ref (zA (Zc V) g0)), (1, .ref (zA (Zc V) g1)), (2, .ref (zA (Zc V) 28))]) dX4_weigh_134 rfl ki_1 (hN _ (Nat.le_of_ble_eq_true rfl)) (fun _ => rfl) (fun v4_134 => ?_)
              refine x_goto C 137 47 dX4_weigh_137 (by decide) ?_
              refine Y_sub [2, 3, 4, 0] rfl ?_
              exact x_back (v4_134, s_131) (hb47 (v4_134, s_131))
    · exact x_vret C R 23 dX4_weigh_23
def M_X5_begin_L34 (v2 : Int32) (σ : Wd) : Option ((Int32 × Wd) ⊕ (Wd)) :=
  if (gI σ 124 2) ≤ v2 then (some (.inr σ)) else (bnd1 (M_X1_setOf σ v2) fun r49 => chk (ib v2 5) (lt (uL σ 125 (ix v2) r49) fun s_52 => bnd1 (M_X1_knownOf s_52 v2) fun r60 => chk (ib v2 5) (lt (uI s_52 126 (ix v2) r60) fun s_63 => lt (v2 + (1 : Int32)) fun v2_64 => some (.inl (v2_64, s_63)))))
def M_X5_begin (σ : Wd) : Option Wd :=
  bnd1 (M_X1_copies σ) fun r2 => lt (uI σ 124 2 r2) fun s_5 => bnd1 (M_X1_primary s_5) fun r10 => lt (uI s_5 124 3 r10) fun s_13 => bnd1 (M_X1_writes s_13) fun r18 => lt (uI s_13 124 4 r18) fun s_21 => bnd1 (M_X1_ordered s_21) fun r26 => lt (uI s_21 124 5 r26) fun s_29 => bnd1 (iter (fun s : Int32 × Wd => M_X5_begin_L34 s.1 s.2) FU ((0 : Int32), s_29)) (un1 fun sx_34 => (some sx_34))
set_option maxRecDepth 100000 in
set_option maxHeartbeats 4000000 in
theorem c_X5_begin (V : Ct_V) (l : Launch) (σ : Wd) {σ2 : Wd} (h : M_X5_begin σ = some σ2) : Ct l (Zc V) yX5_begin cX5_begin 3 none 1 21 [.ref (zA (Zc V) 124), .ref (zA (Zc V) 28)] σ none σ2 := by
  refine Ct_intro (own := RX5) zc_ok (by decide +kernel) rfl (Nat.le_of_ble_eq_true rfl) [(0, .ref (zA (Zc V) 124)), (1, .ref (zA (Zc V) 28))] rfl (fun K C R hKl hnL => ?_)
  have hN := nl_of hnL
  subst hKl
  refine Y_end h ?_
  unfold M_X5_begin
  refine x_aload_n C 0 0 dX5_begin_0 rfl ?_
  refine x_aload_n C 1 1 dX5_begin_1 rfl ?_
  refine Y_bnd1 (fun r2 h2 => ?_)
  refine x_callVi C 2 [] [.ref (zA (Zc V) 124)] rfl tw_1077 mv_X1_copies (Nat.le_of_ble_eq_true rfl) (Nat.le_of_ble_eq_true rfl) (Nat.le_of_ble_eq_true rfl) (Nat.le_of_ble_eq_true rfl) (kc_28 V _) rfl dX5_begin_2 (c_X1_copies V _ _  h2) ?_
  refine fpc_X5_25 C 5 dX5_begin_5 (fun s_5 => ?_)
  refine x_aload_n C 8 0 dX5_begin_8 rfl ?_
  refine x_aload_n C 9 1 dX5_begin_9 rfl ?_
  refine Y_bnd1 (fun r10 h10 => ?_)
  refine x_callVi C 10 [] [.ref (zA (Zc V) 124)] rfl tw_1078 mv_X1_primary (Nat.le_of_ble_eq_true rfl) (Nat.le_of_ble_eq_true rfl) (Nat.le_of_ble_eq_true rfl) (Nat.le_of_ble_eq_true rfl) (kc_28 V _) rfl dX5_begin_10 (c_X1_primary V _ _  h10) ?_
  refine fpc_X5_31 C 13 dX5_begin_13 (fun s_13 => ?_)
  refine x_aload_n C 16 0 dX5_begin_16 rfl ?_
  refine x_aload_n C 17 1 dX5_begin_17 rfl ?_
  refine Y_bnd1 (fun r18 h18 => ?_)
  refine x_callVi C 18 [] [.ref (zA (Zc V) 124)] rfl tw_1079 mv_X1_writes (Nat.le_of_ble_eq_true rfl) (Nat.le_of_ble_eq_true rfl) (Nat.le_of_ble_eq_true rfl) (Nat.le_of_ble_eq_true rfl) (kc_28 V _) rfl dX5_begin_18 (c_X1_writes V _ _  h18) ?_
  refine fpc_X5_36 C 21 dX5_begin_21 (fun s_21 => ?_)
  refine x_aload_n C 24 0 dX5_begin_24 rfl ?_
  refine x_aload_n C 25 1 dX5_begin_25 rfl ?_
  refine Y_bnd1 (fun r26 h26 => ?_)
  refine x_callVi C 26 [] [.ref (zA (Zc V) 124)] rfl tw_1080 mv_X1_ordered (Nat.le_of_ble_eq_true rfl) (Nat.le_of_ble_eq_true rfl) (Nat.le_of_ble_eq_true rfl) (Nat.le_of_ble_eq_true rfl) (kc_28 V _) rfl dX5_begin_26 (c_X1_ordered V _ _  h26) ?_
  refine fpc_X5_41 C 29 dX5_begin_29 (fun s_29 => ?_)
  refine x_iconst C 32 dX5_begin_32 ki_0 ?_
  refine x_istore_n C 33 (L' := [(2, .int (0 : Int32)), (0, .ref (zA (Zc V) 124)), (1, .ref (zA (Zc V) 28))]) dX5_begin_33 rfl (hN _ (Nat.le_of_ble_eq_true rfl)) rfl ?_
  refine Y_sub [1, 2, 0] rfl ?_
  refine x_loop 34 (fun s : Int32 × Wd => s.2) (fun s : Int32 × Wd => [(0, .ref (zA (Zc V) 124)), (1, .ref (zA (Zc V) 28)), (2, .int s.1)]) (fun E34 hb34 hx34 s => ?_) FU ((0 : Int32), s_29)
  obtain ⟨v2_34, s_34⟩ := s
  show Y K (Zc V) (M_X5_begin_L34 v2_34 s_34) E34 s_34 34 [(0, .ref (zA (Zc V) 124)), (1, .ref (zA (Zc V) 28)), (2, .int v2_34)] []
  unfold M_X5_begin_L34
  refine x_iload_n C 34 2 dX5_begin_34 rfl ?_
  refine x_aload_n C 35 0 dX5_begin_35 rfl ?_
  refine fgc_X5_25 C 36 dX5_begin_36 ?_
  refine x_icmp_ge C 39 70 dX5_begin_39 (by decide) (fun _ => ?_) (fun _ => ?_)
  · refine x_ex1 hx34 s_34 ?_
    exact x_vret C R 70 dX5_begin_70
  · refine x_aload_n C 42 0 dX5_begin_42 rfl ?_
    refine fgc_X5_9 C 43 dX5_begin_43 ?_
    refine x_iload_n C 46 2 dX5_begin_46 rfl ?_
    refine x_aload_n C 47 1 dX5_begin_47 rfl ?_
    refine x_iload_n C 48 2 dX5_begin_48 rfl ?_
    refine Y_bnd1 (fun r49 h49 => ?_)
    refine x_callVl C 49 [.int v2_34] [.int v2_34, .ref (zA (Zc V) 125)] rfl tw_1081 mv_X1_setOf (Nat.le_of_ble_eq_true rfl) (Nat.le_of_ble_eq_true rfl) (Nat.le_of_ble_eq_true rfl) (Nat.le_of_ble_eq_true rfl) (kc_28 V _) rfl dX5_begin_49 (c_X1_setOf V _ _ _ h49) ?_
    refine x_last C 52 (Nat.le_of_ble_eq_true rfl) (kc_125 V) dX5_begin_52 (fun _ s_52 => ?_)
    refine x_aload_n C 53 0 dX5_begin_53 rfl ?_
    refine fgc_X5_15 C 54 dX5_begin_54 ?_
    refine x_iload_n C 57 2 dX5_begin_57 rfl ?_
    refine x_aload_n C 58 1 dX5_begin_58 rfl ?_
    refine x_iload_n C 59 2 dX5_begin_59 rfl ?_
    refine Y_bnd1 (fun r60 h60 => ?_)
    refine x_callVi C 60 [.int v2_34] [.int v2_34, .ref (zA (Zc V) 126)] rfl tw_1082 mv_X1_knownOf (Nat.le_of_ble_eq_true rfl) (Nat.le_of_ble_eq_true rfl) (Nat.le_of_ble_eq_true rfl) (Nat.le_of_ble_eq_true rfl) (kc_28 V _) rfl dX5_begin_60 (c_X1_knownOf V _ _ _ h60) ?_
    refine x_iast C 63 (Nat.le_of_ble_eq_true rfl) (kc_126 V) dX5_begin_63 (fun _ s_63 => ?_)
    refine x_iinct C 64 2 (1 : Int32) (fun v2_64 => [(2, .int v2_64), (0, .ref (zA (Zc V) 124)), (1, .ref (zA (Zc V) 28))]) dX5_begin_64 rfl ki_1 (hN _ (Nat.le_of_ble_eq_true rfl)) (fun _ => rfl) (fun v2_64 => ?_)
    refine x_goto C 67 34 dX5_begin_67 (by decide) ?_
    refine Y_sub [1, 2, 0] rfl ?_
    exact x_back (v2_64, s_63) (hb34 (v2_64, s_63))
def M_X5_stir (v0 : Int32) (v1 : Int32) : Option Int32 :=
  lt (((v0 ^^^ v1) * (1103515245 : Int32)) + (12345 : Int32)) fun v2_10 => some (v2_10 ^^^ ((v2_10.toUInt32 >>> ((15 : Int32).toUInt32 &&& Int32.toUInt32 31)).toInt32))
set_option maxRecDepth 100000 in
set_option maxHeartbeats 4000000 in
theorem c_X5_stir (V : Ct_V) (l : Launch) (σ : Wd) (v0 : Int32) (v1 : Int32) {r : Int32} (h : M_X5_stir v0 v1 = some r) : Ct l (Zc V) yX5_stir cX5_stir 3 (some .int) 0 0 [.int v0, .int v1] σ (some (.int r)) σ := by
  refine Ct_intro (own := RX5) zc_ok (by decide +kernel) rfl (Nat.le_of_ble_eq_true rfl) [(0, .int v0), (1, .int v1)] rfl (fun K C R hKl hnL => ?_)
  have hN := nl_of hnL
  subst hKl
  refine Y_end h ?_
  unfold M_X5_stir
  refine x_iload_n C 0 0 dX5_stir_0 rfl ?_
  refine x_iload_n C 1 1 dX5_stir_1 rfl ?_
  refine x_ixor C 2 dX5_stir_2 ?_
  refine x_ldc C 3 (hw := tw_857) dX5_stir_3 ?_
  refine x_imul C 5 dX5_stir_5 ?_
  refine x_sipush C 6 dX5_stir_6 ks_12345 ?_
  refine x_iadd C 9 dX5_stir_9 ?_
  refine x_istore_nt C 10 (fun v2_10 => [(2, .int v2_10), (0, .int v0), (1, .int v1)]) dX5_stir_10 rfl (hN _ (Nat.le_of_ble_eq_true rfl)) (fun _ => rfl) (fun v2_10 => ?_)
  refine x_iload_n C 11 0 dX5_stir_11 rfl ?_
  refine x_iload_n C 12 0 dX5_stir_12 rfl ?_
  refine x_bipush C 13 dX5_stir_13 kb_15 ?_
  refine x_iushr C 15 dX5_stir_15 ?_
  refine x_ixor C 16 dX5_stir_16 ?_
  exact x_iret1 C R 17 dX5_stir_17
def M_X5_lot (v0 : Int32) (v1 : Int32) (v2 : Int32) : Option Int32 :=
  bnd1 (M_X5_stir v1 (223 : Int32)) fun r4 => bnd1 (M_X5_stir r4 v2) fun r8 => if (1 : Int32) ≤ v0 then (chk (¬ v0 = 0) (some (((r8.toUInt32 >>> ((1 : Int32).toUInt32 &&& Int32.toUInt32 31)).toInt32) - ((r8.toUInt32 >>> ((1 : Int32).toUInt32 &&& Int32.toUInt32 31)).toInt32) / v0 * v0))) else (some (0 : Int32))
set_option maxRecDepth 100000 in
set_option maxHeartbeats 4000000 in
theorem c_X5_lot (V : Ct_V) (l : Launch) (σ : Wd) (v0 : Int32) (v1 : Int32) (v2 : Int32) {r : Int32} (h : M_X5_lot v0 v1 v2 = some r) : Ct l (Zc V) yX5_lot cX5_lot 4 (some .int) 1 22 [.int v0, .int v1, .int v2] σ (some (.int r)) σ := by
  refine Ct_intro (own := RX5) zc_ok (by decide +kernel) rfl (Nat.le_of_ble_eq_true rfl) [(0, .int v0), (1, .int v1), (2, .int v2)] rfl (fun K C R hKl hnL => ?_)
  have hN := nl_of hnL
  subst hKl
  refine Y_end h ?_
  unfold M_X5_lot
  refine x_iload_n C 0 1 dX5_lot_0 rfl ?_
  refine x_sipush C 1 dX5_lot_1 ks_223 ?_
  refine Y_bnd1 (fun r4 h4 => ?_)
  refine x_callSi C 4 [.int v1, .int (223 : Int32)] [] rfl tw_854 ms_X5_stir (Nat.le_of_ble_eq_true rfl) (Nat.le_of_ble_eq_true rfl) (Nat.le_of_ble_eq_true rfl) dX5_lot_4 (c_X5_stir V _ _ _ _ h4) ?_
  refine x_iload_n C 7 2 dX5_lot_7 rfl ?_
  refine Y_bnd1 (fun r8 h8 => ?_)
  refine x_callSi C 8 [.int r4, .int v2] [] rfl tw_854 ms_X5_stir (Nat.le_of_ble_eq_true rfl) (Nat.le_of_ble_eq_true rfl) (Nat.le_of_ble_eq_true rfl) dX5_lot_8 (c_X5_stir V _ _ _ _ h8) ?_
  refine x_istore_n C 11 (L' := [(3, .int r8), (0, .int v0), (1, .int v1), (2, .int v2)]) dX5_lot_11 rfl (hN _ (Nat.le_of_ble_eq_true rfl)) rfl ?_
  refine x_iload_n C 12 1 dX5_lot_12 rfl ?_
  refine x_iconst C 13 dX5_lot_13 ki_1 ?_
  refine x_icmp_ge C 14 21 dX5_lot_14 (by decide) (fun _ => ?_) (fun _ => ?_)
  · refine x_iload_n C 21 0 dX5_lot_21 rfl ?_
    refine x_iconst C 22 dX5_lot_22 ki_1 ?_
    refine x_iushr C 23 dX5_lot_23 ?_
    refine x_iload_n C 24 1 dX5_lot_24 rfl ?_
    refine Y_chk (fun q25 => ?_)
    refine x_irem C 25 dX5_lot_25 q25 ?_
    exact x_iret1 C R 26 dX5_lot_26
  · refine x_iconst C 17 dX5_lot_17 ki_0 ?_
    refine x_goto C 18 26 dX5_lot_18 (by decide) ?_
    exact x_iret1 C R 26 dX5_lot_26
def M_X5_giver (v0 : Int32) (v1 : Int32) (v2 : Int32) : Option Int32 :=
  bnd1 (M_X5_lot v0 v1 ((2 : Int32) * v2)) fun r5 => some r5
set_option maxRecDepth 100000 in
set_option maxHeartbeats 4000000 in
theorem c_X5_giver (V : Ct_V) (l : Launch) (σ : Wd) (v0 : Int32) (v1 : Int32) (v2 : Int32) {r : Int32} (h : M_X5_giver v0 v1 v2 = some r) : Ct l (Zc V) yX5_giver cX5_giver 3 (some .int) 2 45 [.int v0, .int v1, .int v2] σ (some (.int r)) σ := by
  refine Ct_intro (own := RX5) zc_ok (by decide +kernel) rfl (Nat.le_of_ble_eq_true rfl) [(0, .int v0), (1, .int v1), (2, .int v2)] rfl (fun K C R hKl hnL => ?_)
  have hN := nl_of hnL
  subst hKl
  refine Y_end h ?_
  unfold M_X5_giver
  refine x_iload_n C 0 0 dX5_giver_0 rfl ?_
  refine x_iload_n C 1 1 dX5_giver_1 rfl ?_
  refine x_iconst C 2 dX5_giver_2 ki_2 ?_
  refine x_iload_n C 3 2 dX5_giver_3 rfl ?_
  refine x_imul C 4 dX5_giver_4 ?_
  refine Y_bnd1 (fun r5 h5 => ?_)
  refine x_callSi C 5 [.int v0, .int v1, .int ((2 : Int32) * v2)] [] rfl tw_851 ms_X5_lot (Nat.le_of_ble_eq_true rfl) (Nat.le_of_ble_eq_true rfl) (Nat.le_of_ble_eq_true rfl) dX5_giver_5 (c_X5_lot V _ _ _ _ _ h5) ?_
  exact x_iret1 C R 8 dX5_giver_8
def M_X5_taker (v0 : Int32) (v1 : Int32) (v2 : Int32) (v3 : Int32) : Option Int32 :=
  if (2 : Int32) ≤ v1 then (bnd1 (M_X5_lot (v1 - (1 : Int32)) v2 (((2 : Int32) * v3) + (1 : Int32))) fun r21 => chk (¬ v1 = 0) (some (((v0 + (1 : Int32)) + r21) - ((v0 + (1 : Int32)) + r21) / v1 * v1))) else (some v0)
set_option maxRecDepth 100000 in
set_option maxHeartbeats 4000000 in
theorem c_X5_taker (V : Ct_V) (l : Launch) (σ : Wd) (v0 : Int32) (v1 : Int32) (v2 : Int32) (v3 : Int32) {r : Int32} (h : M_X5_taker v0 v1 v2 v3 = some r) : Ct l (Zc V) yX5_taker cX5_taker 4 (some .int) 2 45 [.int v0, .int v1, .int v2, .int v3] σ (some (.int r)) σ := by
  refine Ct_intro (own := RX5) zc_ok (by decide +kernel) rfl (Nat.le_of_ble_eq_true rfl) [(0, .int v0), (1, .int v1), (2, .int v2), (3, .int v3)] rfl (fun K C R hKl hnL => ?_)
  have hN := nl_of hnL
  subst hKl
  refine Y_end h ?_
  unfold M_X5_taker
  refine x_iload_n C 0 1 dX5_taker_0 rfl ?_
  refine x_iconst C 1 dX5_taker_1 ki_2 ?_
  refine x_icmp_ge C 2 9 dX5_taker_2 (by decide) (fun _ => ?_) (fun _ => ?_)
  · refine x_iload_n C 9 0 dX5_taker_9 rfl ?_
    refine x_iconst C 10 dX5_taker_10 ki_1 ?_
    refine x_iadd C 11 dX5_taker_11 ?_
    refine x_iload_n C 12 1 dX5_taker_12 rfl ?_
    refine x_iconst C 13 dX5_taker_13 ki_1 ?_
    refine x_isub C 14 dX5_taker_14 ?_
    refine x_iload_n C 15 2 dX5_taker_15 rfl ?_
    refine x_iconst C 16 dX5_taker_16 ki_2 ?_
    refine x_iload_n C 17 3 dX5_taker_17 rfl ?_
    refine x_imul C 18 dX5_taker_18 ?_
    refine x_iconst C 19 dX5_taker_19 ki_1 ?_
    refine x_iadd C 20 dX5_taker_20 ?_
    refine Y_bnd1 (fun r21 h21 => ?_)
    refine x_callSi C 21 [.int (v1 - (1 : Int32)), .int v2, .int (((2 : Int32) * v3) + (1 : Int32))] [.int (v0 + (1 : Int32))] rfl tw_851 ms_X5_lot (Nat.le_of_ble_eq_true rfl) (Nat.le_of_ble_eq_true rfl) (Nat.le_of_ble_eq_true rfl) dX5_taker_21 (c_X5_lot V _ _ _ _ _ h21) ?_
    refine x_iadd C 24 dX5_taker_24 ?_
    refine x_iload_n C 25 1 dX5_taker_25 rfl ?_
    refine Y_chk (fun q26 => ?_)
    refine x_irem C 26 dX5_taker_26 q26 ?_
    exact x_iret1 C R 27 dX5_taker_27
  · refine x_iload_n C 5 0 dX5_taker_5 rfl ?_
    refine x_goto C 6 27 dX5_taker_6 (by decide) ?_
    exact x_iret1 C R 27 dX5_taker_27
def M_J13_bitCount_95d88 (v0 : Int64) : Option Int32 :=
  lt (v0 - (((v0.toUInt64 >>> ((1 : Int32).toInt64.toUInt64 &&& 63)).toInt64) &&& (6148914691236517205 : Int64))) fun v0_9 => lt ((v0_9 &&& (3689348814741910323 : Int64)) + (((v0_9.toUInt64 >>> ((2 : Int32).toInt64.toUInt64 &&& 63)).toInt64) &&& (3689348814741910323 : Int64))) fun v0_23 => lt ((v0_23 + ((v0_23.toUInt64 >>> ((4 : Int32).toInt64.toUInt64 &&& 63)).toInt64)) &&& (1085102592571150095 : Int64)) fun v0_33 => lt (v0_33 + ((v0_33.toUInt64 >>> ((8 : Int32).toInt64.toUInt64 &&& 63)).toInt64)) fun v0_40 => lt (v0_40 + ((v0_40.toUInt64 >>> ((16 : Int32).toInt64.toUInt64 &&& 63)).toInt64)) fun v0_47 => lt (v0_47 + ((v0_47.toUInt64 >>> ((32 : Int32).toInt64.toUInt64 &&& 63)).toInt64)) fun v0_54 => some (v0_54.toInt32 &&& (127 : Int32))
set_option maxRecDepth 100000 in
set_option maxHeartbeats 4000000 in
theorem c_J13_bitCount_95d88 (V : Ct_V) (l : Launch) (σ : Wd) (v0 : Int64) {r : Int32} (h : M_J13_bitCount_95d88 v0 = some r) : Ct l (Zc V) yJ13_bitCount_95d88 cJ13_bitCount_95d88 2 (some .int) 0 0 [.long v0] σ (some (.int r)) σ := by
  refine Ct_intro (own := RJ13) zc_ok (by decide +kernel) rfl (Nat.le_of_ble_eq_true rfl) [(0, .long v0)] rfl (fun K C R hKl hnL => ?_)
  have hN := nl_of hnL
  subst hKl
  refine Y_end h ?_
  unfold M_J13_bitCount_95d88
  refine x_lload_n C 0 0 dJ13_bitCount_95d88_0 rfl ?_
  refine x_lload_n C 1 0 dJ13_bitCount_95d88_1 rfl ?_
  refine x_iconst C 2 dJ13_bitCount_95d88_2 ki_1 ?_
  refine x_lushr C 3 dJ13_bitCount_95d88_3 ?_
  refine x_ldc2 C 4 (hw := tw_926) dJ13_bitCount_95d88_4 ?_
  refine x_land C 7 dJ13_bitCount_95d88_7 ?_
  refine x_lsub C 8 dJ13_bitCount_95d88_8 ?_
  refine x_lstore_nt C 9 (fun v0_9 => [(0, .long v0_9)]) dJ13_bitCount_95d88_9 rfl (hN _ (Nat.le_of_ble_eq_true rfl)) (fun _ => rfl) (fun v0_9 => ?_)
  refine x_lload_n C 10 0 dJ13_bitCount_95d88_10 rfl ?_
  refine x_ldc2 C 11 (hw := tw_927) dJ13_bitCount_95d88_11 ?_
  refine x_land C 14 dJ13_bitCount_95d88_14 ?_
  refine x_lload_n C 15 0 dJ13_bitCount_95d88_15 rfl ?_
  refine x_iconst C 16 dJ13_bitCount_95d88_16 ki_2 ?_
  refine x_lushr C 17 dJ13_bitCount_95d88_17 ?_
  refine x_ldc2 C 18 (hw := tw_927) dJ13_bitCount_95d88_18 ?_
  refine x_land C 21 dJ13_bitCount_95d88_21 ?_
  refine x_ladd C 22 dJ13_bitCount_95d88_22 ?_
  refine x_lstore_nt C 23 (fun v0_23 => [(0, .long v0_23)]) dJ13_bitCount_95d88_23 rfl (hN _ (Nat.le_of_ble_eq_true rfl)) (fun _ => rfl) (fun v0_23 => ?_)
  refine x_lload_n C 24 0 dJ13_bitCount_95d88_24 rfl ?_
  refine x_lload_n C 25 0 dJ13_bitCount_95d88_25 rfl ?_
  refine x_iconst C 26 dJ13_bitCount_95d88_26 ki_4 ?_
  refine x_lushr C 27 dJ13_bitCount_95d88_27 ?_
  refine x_ladd C 28 dJ13_bitCount_95d88_28 ?_
  refine x_ldc2 C 29 (hw := tw_928) dJ13_bitCount_95d88_29 ?_
  refine x_land C 32 dJ13_bitCount_95d88_32 ?_
  refine x_lstore_nt C 33 (fun v0_33 => [(0, .long v0_33)]) dJ13_bitCount_95d88_33 rfl (hN _ (Nat.le_of_ble_eq_true rfl)) (fun _ => rfl) (fun v0_33 => ?_)
  refine x_lload_n C 34 0 dJ13_bitCount_95d88_34 rfl ?_
  refine x_lload_n C 35 0 dJ13_bitCount_95d88_35 rfl ?_
  refine x_bipush C 36 dJ13_bitCount_95d88_36 kb_8 ?_
  refine x_lushr C 38 dJ13_bitCount_95d88_38 ?_
  refine x_ladd C 39 dJ13_bitCount_95d88_39 ?_
  refine x_lstore_nt C 40 (fun v0_40 => [(0, .long v0_40)]) dJ13_bitCount_95d88_40 rfl (hN _ (Nat.le_of_ble_eq_true rfl)) (fun _ => rfl) (fun v0_40 => ?_)
  refine x_lload_n C 41 0 dJ13_bitCount_95d88_41 rfl ?_
  refine x_lload_n C 42 0 dJ13_bitCount_95d88_42 rfl ?_
  refine x_bipush C 43 dJ13_bitCount_95d88_43 kb_16 ?_
  refine x_lushr C 45 dJ13_bitCount_95d88_45 ?_
  refine x_ladd C 46 dJ13_bitCount_95d88_46 ?_
  refine x_lstore_nt C 47 (fun v0_47 => [(0, .long v0_47)]) dJ13_bitCount_95d88_47 rfl (hN _ (Nat.le_of_ble_eq_true rfl)) (fun _ => rfl) (fun v0_47 => ?_)
  refine x_lload_n C 48 0 dJ13_bitCount_95d88_48 rfl ?_
  refine x_lload_n C 49 0 dJ13_bitCount_95d88_49 rfl ?_
  refine x_bipush C 50 dJ13_bitCount_95d88_50 kb_32 ?_
  refine x_lushr C 52 dJ13_bitCount_95d88_52 ?_
  refine x_ladd C 53 dJ13_bitCount_95d88_53 ?_
  refine x_lstore_nt C 54 (fun v0_54 => [(0, .long v0_54)]) dJ13_bitCount_95d88_54 rfl (hN _ (Nat.le_of_ble_eq_true rfl)) (fun _ => rfl) (fun v0_54 => ?_)
  refine x_lload_n C 55 0 dJ13_bitCount_95d88_55 rfl ?_
  refine x_l2i C 56 dJ13_bitCount_95d88_56 ?_
  refine x_bipush C 57 dJ13_bitCount_95d88_57 kb_127 ?_
  refine x_iand C 59 dJ13_bitCount_95d88_59 ?_
  exact x_iret1 C R 60 dJ13_bitCount_95d88_60
def M_X5_letMeet_J59 (σ : Wd) (v3 : Int32) (v4 : Int32) (t0 : Int32) : Option Wd :=
  chk (ib v4 5) (chk (ib v3 5) (chk (ib v4 5) (lt (uL σ 125 (ix v4) ((gL σ 125 (ix v4)) ||| (gL σ 125 (ix v3)))) fun s_76 => chk (ib v4 5) (chk (ib v3 5) (chk (ib v4 5) (lt (uI s_76 126 (ix v4) (if (gI s_76 126 (ix v4)) < (gI s_76 126 (ix v3)) then (gI s_76 126 (ix v3)) else (gI s_76 126 (ix v4)))) fun s_99 => if v4 ≠ (gI s_99 124 3) then (some s_99) else (if t0 = 0 then (some s_99) else (chk (ib v4 5) (bnd1 (M_J13_bitCount_95d88 (gL s_99 125 (ix v4))) fun r122 => lt (uI s_99 124 5 r122) fun s_125 => chk (ib v4 5) (lt (uI s_125 126 (ix v4) (gI s_125 124 5)) fun s_138 => some s_138))))))))))
def M_X5_letMeet (σ : Wd) (v1 : Int32) (v2 : Int32) : Option Wd :=
  if (2 : Int32) ≤ (gI σ 124 2) then (bnd1 (M_X5_giver (gI σ 124 2) v1 v2) fun r15 => bnd1 (M_X5_taker r15 (gI σ 124 2) v1 v2) fun r26 => chk (ib r15 5) (chk (ib r26 5) (if (lg_cmp ((gL σ 125 (ix r15)) &&& ((gL σ 125 (ix r26)) ^^^ (-1 : Int64))) (0 : Int64)) = 0 then (M_X5_letMeet_J59 σ r15 r26 (0 : Int32)) else (M_X5_letMeet_J59 σ r15 r26 (1 : Int32))))) else (some σ)
set_option maxRecDepth 100000 in
set_option maxHeartbeats 4000000 in
theorem c_X5_letMeet (V : Ct_V) (l : Launch) (σ : Wd) (v1 : Int32) (v2 : Int32) {σ2 : Wd} (h : M_X5_letMeet σ v1 v2 = some σ2) : Ct l (Zc V) yX5_letMeet cX5_letMeet 6 none 3 68 [.ref (zA (Zc V) 124), .int v1, .int v2] σ none σ2 := by
  refine Ct_intro (own := RX5) zc_ok (by decide +kernel) rfl (Nat.le_of_ble_eq_true rfl) [(0, .ref (zA (Zc V) 124)), (1, .int v1), (2, .int v2)] rfl (fun K C R hKl hnL => ?_)
  have hN := nl_of hnL
  subst hKl
  refine Y_end h ?_
  unfold M_X5_letMeet
  refine x_aload_n C 0 0 dX5_letMeet_0 rfl ?_
  refine fgc_X5_25 C 1 dX5_letMeet_1 ?_
  refine x_iconst C 4 dX5_letMeet_4 ki_2 ?_
  refine x_icmp_ge C 5 9 dX5_letMeet_5 (by decide) (fun _ => ?_) (fun _ => ?_)
  · refine x_aload_n C 9 0 dX5_letMeet_9 rfl ?_
    refine fgc_X5_25 C 10 dX5_letMeet_10 ?_
    refine x_iload_n C 13 1 dX5_letMeet_13 rfl ?_
    refine x_iload_n C 14 2 dX5_letMeet_14 rfl ?_
    refine Y_bnd1 (fun r15 h15 => ?_)
    refine x_callSi C 15 [.int (gI σ 124 2), .int v1, .int v2] [] rfl tw_1091 ms_X5_giver (Nat.le_of_ble_eq_true rfl) (Nat.le_of_ble_eq_true rfl) (Nat.le_of_ble_eq_true rfl) dX5_letMeet_15 (c_X5_giver V _ _ _ _ _ h15) ?_
    refine x_istore_n C 18 (L' := [(3, .int r15), (0, .ref (zA (Zc V) 124)), (1, .int v1), (2, .int v2)]) dX5_letMeet_18 rfl (hN _ (Nat.le_of_ble_eq_true rfl)) rfl ?_
    refine x_iload_n C 19 0 dX5_letMeet_19 rfl ?_
    refine x_aload_n C 20 1 dX5_letMeet_20 rfl ?_
    refine fgc_X5_25 C 21 dX5_letMeet_21 ?_
    refine x_iload_n C 24 2 dX5_letMeet_24 rfl ?_
    refine x_iload_n C 25 3 dX5_letMeet_25 rfl ?_
    refine Y_bnd1 (fun r26 h26 => ?_)
    refine x_callSi C 26 [.int r15, .int (gI σ 124 2), .int v1, .int v2] [] rfl tw_1092 ms_X5_taker (Nat.le_of_ble_eq_true rfl) (Nat.le_of_ble_eq_true rfl) (Nat.le_of_ble_eq_true rfl) dX5_letMeet_26 (c_X5_taker V _ _ _ _ _ _ h26) ?_
    refine x_istore C 29 (L' := [(4, .int r26), (3, .int r15), (0, .ref (zA (Zc V) 124)), (1, .int v1), (2, .int v2)]) dX5_letMeet_29 (hN _ (Nat.le_of_ble_eq_true rfl)) rfl ?_
    refine x_aload_n C 31 2 dX5_letMeet_31 rfl ?_
    refine fgc_X5_9 C 32 dX5_letMeet_32 ?_
    refine x_iload_n C 35 1 dX5_letMeet_35 rfl ?_
    refine x_lald C 36 (Nat.le_of_ble_eq_true rfl) (kc_125 V _) dX5_letMeet_36 (fun _ => ?_)
    refine x_aload_n C 37 2 dX5_letMeet_37 rfl ?_
    refine fgc_X5_9 C 38 dX5_letMeet_38 ?_
    refine x_iload C 41 0 dX5_letMeet_41 rfl ?_
    refine x_lald C 43 (Nat.le_of_ble_eq_true rfl) (kc_125 V _) dX5_letMeet_43 (fun _ => ?_)
    refine x_ldc2 C 44 (hw := tw_1093) dX5_letMeet_44 ?_
    refine x_lxor C 47 dX5_letMeet_47 ?_
    refine x_land C 48 dX5_letMeet_48 ?_
    refine x_lconst C 49 dX5_letMeet_49 kl_0 ?_
    refine x_lcmp C 50 dX5_letMeet_50 ?_
    have hJ59 : ∀ (σ_59 : Wd) (v3_59 : Int32) (v4_59 : Int32) (t0_59 : Int32), Y K (Zc V) (M_X5_letMeet_J59 σ_59 v3_59 v4_59 t0_59) (fun q => q = σ2) σ_59 59 [(0, .ref (zA (Zc V) 124)), (3, .int v3_59), (4, .int v4_59)] [.int t0_59] := by
      intro σ_59 v3_59 v4_59 t0_59
      unfold M_X5_letMeet_J59
      refine x_istore C 59 (L' := [(5, .int t0_59), (0, .ref (zA (Zc V) 124)), (3, .int v3_59), (4, .int v4_59)]) dX5_letMeet_59 (hN _ (Nat.le_of_ble_eq_true rfl)) rfl ?_
      refine x_aload_n C 61 1 dX5_letMeet_61 rfl ?_
      refine fgc_X5_9 C 62 dX5_letMeet_62 ?_
      refine x_iload C 65 3 dX5_letMeet_65 rfl ?_
      refine x_dup2 C 67 dX5_letMeet_67 rfl rfl ?_
      refine x_lald C 68 (Nat.le_of_ble_eq_true rfl) (kc_125 V _) dX5_letMeet_68 (fun _ => ?_)
      refine x_aload_n C 69 1 dX5_letMeet_69 rfl ?_
      refine fgc_X5_9 C 70 dX5_letMeet_70 ?_
      refine x_iload_n C 73 2 dX5_letMeet_73 rfl ?_
      refine x_lald C 74 (Nat.le_of_ble_eq_true rfl) (kc_125 V _) dX5_letMeet_74 (fun _ => ?_)
      refine x_lor C 75 dX5_letMeet_75 ?_
      refine x_last C 76 (Nat.le_of_ble_eq_true rfl) (kc_125 V) dX5_letMeet_76 (fun _ s_76 => ?_)
      refine x_aload_n C 77 1 dX5_letMeet_77 rfl ?_
      refine fgc_X5_15 C 78 dX5_letMeet_78 ?_
      refine x_iload C 81 3 dX5_letMeet_81 rfl ?_
      refine x_aload_n C 83 1 dX5_letMeet_83 rfl ?_
      refine fgc_X5_15 C 84 dX5_letMeet_84 ?_
      refine x_iload C 87 3 dX5_letMeet_87 rfl ?_
      refine x_iald C 89 (Nat.le_of_ble_eq_true rfl) (kc_126 V _) dX5_letMeet_89 (fun _ => ?_)
      refine x_aload_n C 90 1 dX5_letMeet_90 rfl ?_
      refine fgc_X5_15 C 91 dX5_letMeet_91 ?_
      refine x_iload_n C 94 2 dX5_letMeet_94 rfl ?_
      refine x_iald C 95 (Nat.le_of_ble_eq_true rfl) (kc_126 V _) dX5_letMeet_95 (fun _ => ?_)
      refine x_mmax C 96 tw_1094 tw_470 tw_49 tw_471 (Nat.le_of_ble_eq_true rfl) (Nat.le_of_ble_eq_true rfl) dX5_letMeet_96 ?_
      refine x_iast C 99 (Nat.le_of_ble_eq_true rfl) (kc_126 V) dX5_letMeet_99 (fun _ s_99 => ?_)
      refine x_iload C 100 3 dX5_letMeet_100 rfl ?_
      refine x_aload_n C 102 1 dX5_letMeet_102 rfl ?_
      refine fgc_X5_31 C 103 dX5_letMeet_103 ?_
      refine x_icmp_ne C 106 139 dX5_letMeet_106 (by decide) (fun _ => ?_) (fun _ => ?_)
      · exact x_vret C R 139 dX5_letMeet_139
      · refine x_iload C 109 0 dX5_letMeet_109 rfl ?_
        refine x_if_eq C 111 139 dX5_letMeet_111 (by decide) (fun _ => ?_) (fun _ => ?_)
        · exact x_vret C R 139 dX5_letMeet_139
        · refine x_aload_n C 114 1 dX5_letMeet_114 rfl ?_
          refine x_aload_n C 115 1 dX5_letMeet_115 rfl ?_
          refine fgc_X5_9 C 116 dX5_letMeet_116 ?_
          refine x_iload C 119 3 dX5_letMeet_119 rfl ?_
          refine x_lald C 121 (Nat.le_of_ble_eq_true rfl) (kc_125 V _) dX5_letMeet_121 (fun _ => ?_)
          refine Y_bnd1 (fun r122 h122 => ?_)
          refine x_callSi C 122 [.long (gL s_99 125 (ix v4_59))] [.ref (zA (Zc V) 124)] rfl tw_1095 ms_J13_bitCount_95d88 (Nat.le_of_ble_eq_true rfl) (Nat.le_of_ble_eq_true rfl) (Nat.le_of_ble_eq_true rfl) dX5_letMeet_122 (c_J13_bitCount_95d88 V _ _ _ h122) ?_
          refine fpc_X5_41 C 125 dX5_letMeet_125 (fun s_125 => ?_)
          refine x_aload_n C 128 1 dX5_letMeet_128 rfl ?_
          refine fgc_X5_15 C 129 dX5_letMeet_129 ?_
          refine x_iload C 132 3 dX5_letMeet_132 rfl ?_
          refine x_aload_n C 134 1 dX5_letMeet_134 rfl ?_
          refine fgc_X5_41 C 135 dX5_letMeet_135 ?_
          refine x_iast C 138 (Nat.le_of_ble_eq_true rfl) (kc_126 V) dX5_letMeet_138 (fun _ s_138 => ?_)
          exact x_vret C R 139 dX5_letMeet_139
    refine x_if_eq C 51 58 dX5_letMeet_51 (by decide) (fun _ => ?_) (fun _ => ?_)
    · refine x_iconst C 58 dX5_letMeet_58 ki_0 ?_
      refine Y_sub [2, 1, 0] rfl ?_
      exact hJ59 _ _ _ _
    · refine x_iconst C 54 dX5_letMeet_54 ki_1 ?_
      refine x_goto C 55 59 dX5_letMeet_55 (by decide) ?_
      refine Y_sub [2, 1, 0] rfl ?_
      exact hJ59 _ _ _ _
  · exact x_vret C R 8 dX5_letMeet_8
def M_X5_isSettled_L2 (σ : Wd) (v1 : Int32) : Option ((Int32) ⊕ ((Unit) ⊕ Int32)) :=
  if (gI σ 124 2) ≤ v1 then (some (.inr (.inl ()))) else (chk (ib v1 5) (chk (ib (0 : Int32) 5) (if (lg_cmp (gL σ 125 (ix v1)) (gL σ 125 (ix (0 : Int32)))) ≠ 0 then (some (.inr (.inr (0 : Int32)))) else (chk (ib v1 5) (chk (ib (0 : Int32) 5) (if (gI σ 126 (ix v1)) = (gI σ 126 (ix (0 : Int32))) then (lt (v1 + (1 : Int32)) fun v1_43 => some (.inl v1_43)) else (some (.inr (.inr (0 : Int32))))))))))
def M_X5_isSettled (σ : Wd) : Option Int32 :=
  bnd1 (iter (fun s : Int32 => M_X5_isSettled_L2 σ s) FU (1 : Int32)) (sx (un0 (if (gI σ 124 5) ≠ (gI σ 124 4) then (some (0 : Int32)) else (some (1 : Int32)))) (fun q => some q))
set_option maxRecDepth 100000 in
set_option maxHeartbeats 4000000 in
theorem c_X5_isSettled (V : Ct_V) (l : Launch) (σ : Wd) {r : Int32} (h : M_X5_isSettled σ = some r) : Ct l (Zc V) yX5_isSettled cX5_isSettled 2 (some .boolean) 0 0 [.ref (zA (Zc V) 124)] σ (some (.int r)) σ := by
  refine Ct_intro (own := RX5) zc_ok (by decide +kernel) rfl (Nat.le_of_ble_eq_true rfl) [(0, .ref (zA (Zc V) 124))] rfl (fun K C R hKl hnL => ?_)
  have hN := nl_of hnL
  subst hKl
  refine Y_end h ?_
  unfold M_X5_isSettled
  refine x_iconst C 0 dX5_isSettled_0 ki_1 ?_
  refine x_istore_n C 1 (L' := [(1, .int (1 : Int32)), (0, .ref (zA (Zc V) 124))]) dX5_isSettled_1 rfl (hN _ (Nat.le_of_ble_eq_true rfl)) rfl ?_
  refine Y_sub [1, 0] rfl ?_
  refine x_loop 2 (fun s : Int32 => σ) (fun s : Int32 => [(0, .ref (zA (Zc V) 124)), (1, .int s)]) (fun E2 hb2 hx2 s => ?_) FU (1 : Int32)
  obtain ⟨v1_2, rfl⟩ : ∃ z, z = s := ⟨s, rfl⟩
  show Y K (Zc V) (M_X5_isSettled_L2 σ v1_2) E2 σ 2 [(0, .ref (zA (Zc V) 124)), (1, .int v1_2)] []
  unfold M_X5_isSettled_L2
  refine x_iload_n C 2 1 dX5_isSettled_2 rfl ?_
  refine x_aload_n C 3 0 dX5_isSettled_3 rfl ?_
  refine fgc_X5_25 C 4 dX5_isSettled_4 ?_
  refine x_icmp_ge C 7 49 dX5_isSettled_7 (by decide) (fun _ => ?_) (fun _ => ?_)
  · refine x_exl0 hx2 ?_
    refine x_aload_n C 49 0 dX5_isSettled_49 rfl ?_
    refine fgc_X5_41 C 50 dX5_isSettled_50 ?_
    refine x_aload_n C 53 0 dX5_isSettled_53 rfl ?_
    refine fgc_X5_36 C 54 dX5_isSettled_54 ?_
    refine x_icmp_ne C 57 64 dX5_isSettled_57 (by decide) (fun _ => ?_) (fun _ => ?_)
    · refine x_iconst C 64 dX5_isSettled_64 ki_0 ?_
      exact x_zret1 C R 65 (zb_nar (r := (0 : Int32)) (Or.inl rfl)) dX5_isSettled_65
    · refine x_iconst C 60 dX5_isSettled_60 ki_1 ?_
      refine x_goto C 61 65 dX5_isSettled_61 (by decide) ?_
      exact x_zret1 C R 65 (zb_nar (r := (1 : Int32)) (Or.inr rfl)) dX5_isSettled_65
  · refine x_aload_n C 10 0 dX5_isSettled_10 rfl ?_
    refine fgc_X5_9 C 11 dX5_isSettled_11 ?_
    refine x_iload_n C 14 1 dX5_isSettled_14 rfl ?_
    refine x_lald C 15 (Nat.le_of_ble_eq_true rfl) (kc_125 V _) dX5_isSettled_15 (fun _ => ?_)
    refine x_aload_n C 16 0 dX5_isSettled_16 rfl ?_
    refine fgc_X5_9 C 17 dX5_isSettled_17 ?_
    refine x_iconst C 20 dX5_isSettled_20 ki_0 ?_
    refine x_lald C 21 (Nat.le_of_ble_eq_true rfl) (kc_125 V _) dX5_isSettled_21 (fun _ => ?_)
    refine x_lcmp C 22 dX5_isSettled_22 ?_
    refine x_if_ne C 23 41 dX5_isSettled_23 (by decide) (fun _ => ?_) (fun _ => ?_)
    · refine x_iconst C 41 dX5_isSettled_41 ki_0 ?_
      refine x_exr hx2 _ ?_
      exact x_zret1 C R 42 (zb_nar (r := (0 : Int32)) (Or.inl rfl)) dX5_isSettled_42
    · refine x_aload_n C 26 0 dX5_isSettled_26 rfl ?_
      refine fgc_X5_15 C 27 dX5_isSettled_27 ?_
      refine x_iload_n C 30 1 dX5_isSettled_30 rfl ?_
      refine x_iald C 31 (Nat.le_of_ble_eq_true rfl) (kc_126 V _) dX5_isSettled_31 (fun _ => ?_)
      refine x_aload_n C 32 0 dX5_isSettled_32 rfl ?_
      refine fgc_X5_15 C 33 dX5_isSettled_33 ?_
      refine x_iconst C 36 dX5_isSettled_36 ki_0 ?_
      refine x_iald C 37 (Nat.le_of_ble_eq_true rfl) (kc_126 V _) dX5_isSettled_37 (fun _ => ?_)
      refine x_icmp_eq C 38 43 dX5_isSettled_38 (by decide) (fun _ => ?_) (fun _ => ?_)
      · refine x_iinct C 43 1 (1 : Int32) (fun v1_43 => [(1, .int v1_43), (0, .ref (zA (Zc V) 124))]) dX5_isSettled_43 rfl ki_1 (hN _ (Nat.le_of_ble_eq_true rfl)) (fun _ => rfl) (fun v1_43 => ?_)
        refine x_goto C 46 2 dX5_isSettled_46 (by decide) ?_
        refine Y_sub [1, 0] rfl ?_
        exact x_back v1_43 (hb2 v1_43)
      · refine x_iconst C 41 dX5_isSettled_41 ki_0 ?_
        refine x_exr hx2 _ ?_
        exact x_zret1 C R 42 (zb_nar (r := (0 : Int32)) (Or.inl rfl)) dX5_isSettled_42
def M_X8_addBytes_L3 (v1 : Int32) (v2 : Int32) (σ : Wd) : Option ((Int32 × Wd) ⊕ (Wd)) :=
  if v2 < 0 then (some (.inr σ)) else (if (2000 : Int32) ≤ (gI σ 0 1) then (some (.inr σ)) else (chk (ib (gI σ 0 1) 2000) (lt (uI σ 1 (ix (gI σ 0 1)) (vp_nar .byte ((v1 >>> (v2 &&& 31)).toInt8.toInt32))) fun s_29 => lt (uI s_29 0 1 ((gI s_29 0 1) + (1 : Int32))) fun s_37 => lt (v2 + (-8 : Int32)) fun v2_40 => some (.inl (v2_40, s_37)))))
def M_X8_addBytes (σ : Wd) (v1 : Int32) : Option Wd :=
  bnd1 (iter (fun s : Int32 × Wd => M_X8_addBytes_L3 v1 s.1 s.2) FU ((24 : Int32), σ)) (un1 fun sx_3 => (some sx_3))
set_option maxRecDepth 100000 in
set_option maxHeartbeats 4000000 in
theorem c_X8_addBytes (V : Ct_V) (l : Launch) (σ : Wd) (v1 : Int32) {σ2 : Wd} (h : M_X8_addBytes σ v1 = some σ2) : Ct l (Zc V) yX8_addBytes cX8_addBytes 3 none 0 0 [.ref (zA (Zc V) 0), .int v1] σ none σ2 := by
  refine Ct_intro (own := RX8) zc_ok (by decide +kernel) rfl (Nat.le_of_ble_eq_true rfl) [(0, .ref (zA (Zc V) 0)), (1, .int v1)] rfl (fun K C R hKl hnL => ?_)
  have hN := nl_of hnL
  subst hKl
  refine Y_end h ?_
  unfold M_X8_addBytes
  refine x_bipush C 0 dX8_addBytes_0 kb_24 ?_
  refine x_istore_n C 2 (L' := [(2, .int (24 : Int32)), (0, .ref (zA (Zc V) 0)), (1, .int v1)]) dX8_addBytes_2 rfl (hN _ (Nat.le_of_ble_eq_true rfl)) rfl ?_
  refine Y_sub [1, 2, 0] rfl ?_
  refine x_loop 3 (fun s : Int32 × Wd => s.2) (fun s : Int32 × Wd => [(0, .ref (zA (Zc V) 0)), (1, .int v1), (2, .int s.1)]) (fun E3 hb3 hx3 s => ?_) FU ((24 : Int32), σ)
  obtain ⟨v2_3, s_3⟩ := s
  show Y K (Zc V) (M_X8_addBytes_L3 v1 v2_3 s_3) E3 s_3 3 [(0, .ref (zA (Zc V) 0)), (1, .int v1), (2, .int v2_3)] []
  unfold M_X8_addBytes_L3
  refine x_iload_n C 3 2 dX8_addBytes_3 rfl ?_
  refine x_if_lt C 4 46 dX8_addBytes_4 (by decide) (fun _ => ?_) (fun _ => ?_)
  · refine x_ex1 hx3 s_3 ?_
    exact x_vret C R 46 dX8_addBytes_46
  · refine x_aload_n C 7 0 dX8_addBytes_7 rfl ?_
    refine fgc_X8_13 C 8 dX8_addBytes_8 ?_
    refine x_sipush C 11 dX8_addBytes_11 ks_2000 ?_
    refine x_icmp_ge C 14 46 dX8_addBytes_14 (by decide) (fun _ => ?_) (fun _ => ?_)
    · refine x_ex1 hx3 s_3 ?_
      exact x_vret C R 46 dX8_addBytes_46
    · refine x_aload_n C 17 0 dX8_addBytes_17 rfl ?_
      refine fgc_X8_9 C 18 dX8_addBytes_18 ?_
      refine x_aload_n C 21 0 dX8_addBytes_21 rfl ?_
      refine fgc_X8_13 C 22 dX8_addBytes_22 ?_
      refine x_iload_n C 25 1 dX8_addBytes_25 rfl ?_
      refine x_iload_n C 26 2 dX8_addBytes_26 rfl ?_
      refine x_ishr C 27 dX8_addBytes_27 ?_
      refine x_i2b C 28 dX8_addBytes_28 ?_
      refine x_bast C 29 (Nat.le_of_ble_eq_true rfl) (kc_1 V) dX8_addBytes_29 (fun _ s_29 => ?_)
      refine x_aload_n C 30 0 dX8_addBytes_30 rfl ?_
      refine x_dup C 31 dX8_addBytes_31 rfl ?_
      refine fgc_X8_13 C 32 dX8_addBytes_32 ?_
      refine x_iconst C 35 dX8_addBytes_35 ki_1 ?_
      refine x_iadd C 36 dX8_addBytes_36 ?_
      refine fpc_X8_13 C 37 dX8_addBytes_37 (fun s_37 => ?_)
      refine x_iinct C 40 2 (-8 : Int32) (fun v2_40 => [(2, .int v2_40), (0, .ref (zA (Zc V) 0)), (1, .int v1)]) dX8_addBytes_40 rfl ki_m8 (hN _ (Nat.le_of_ble_eq_true rfl)) (fun _ => rfl) (fun v2_40 => ?_)
      refine x_goto C 43 3 dX8_addBytes_43 (by decide) ?_
      refine Y_sub [1, 2, 0] rfl ?_
      exact x_back (v2_40, s_37) (hb3 (v2_40, s_37))
def M_X8_feed (σ : Wd) (v1 : Int32) (v2 : Int32) (v3 : Int32) (v4 : Int32) (v5 : Int32) : Option (Int32 × Wd) :=
  if ((gI σ 0 1) + (20 : Int32)) ≤ (2000 : Int32) then (bnd1 (M_X8_addBytes σ v1) fun s_17 => bnd1 (M_X8_addBytes s_17 v2) fun s_22 => bnd1 (M_X8_addBytes s_22 v3) fun s_27 => bnd1 (M_X8_addBytes s_27 v4) fun s_33 => bnd1 (M_X8_addBytes s_33 v5) fun s_39 => some ((gI s_39 0 1), s_39)) else (some ((-1 : Int32), σ))
set_option maxRecDepth 100000 in
set_option maxHeartbeats 4000000 in
theorem c_X8_feed (V : Ct_V) (l : Launch) (σ : Wd) (v1 : Int32) (v2 : Int32) (v3 : Int32) (v4 : Int32) (v5 : Int32) {r : Int32} {σ2 : Wd} (h : M_X8_feed σ v1 v2 v3 v4 v5 = some (r, σ2)) : Ct l (Zc V) yX8_feed cX8_feed 6 (some .int) 1 22 [.ref (zA (Zc V) 0), .int v1, .int v2, .int v3, .int v4, .int v5] σ (some (.int r)) σ2 := by
  refine Ct_intro (own := RX8) zc_ok (by decide +kernel) rfl (Nat.le_of_ble_eq_true rfl) [(0, .ref (zA (Zc V) 0)), (1, .int v1), (2, .int v2), (3, .int v3), (4, .int v4), (5, .int v5)] rfl (fun K C R hKl hnL => ?_)
  have hN := nl_of hnL
  subst hKl
  refine Y_end h ?_
  unfold M_X8_feed
  refine x_aload_n C 0 0 dX8_feed_0 rfl ?_
  refine fgc_X8_13 C 1 dX8_feed_1 ?_
  refine x_bipush C 4 dX8_feed_4 kb_20 ?_
  refine x_iadd C 6 dX8_feed_6 ?_
  refine x_sipush C 7 dX8_feed_7 ks_2000 ?_
  refine x_icmp_le C 10 15 dX8_feed_10 (by decide) (fun _ => ?_) (fun _ => ?_)
  · refine x_aload_n C 15 0 dX8_feed_15 rfl ?_
    refine x_iload_n C 16 1 dX8_feed_16 rfl ?_
    refine Y_bnd1 (fun s_17 h17 => ?_)
    refine x_callVv C 17 [.int v1] [] rfl tw_1267 mv_X8_addBytes (Nat.le_of_ble_eq_true rfl) (Nat.le_of_ble_eq_true rfl) (Nat.le_of_ble_eq_true rfl) (Nat.le_of_ble_eq_true rfl) (kc_0 V _) rfl dX8_feed_17 (c_X8_addBytes V _ _ _ h17) ?_
    refine x_aload_n C 20 0 dX8_feed_20 rfl ?_
    refine x_iload_n C 21 2 dX8_feed_21 rfl ?_
    refine Y_bnd1 (fun s_22 h22 => ?_)
    refine x_callVv C 22 [.int v2] [] rfl tw_1267 mv_X8_addBytes (Nat.le_of_ble_eq_true rfl) (Nat.le_of_ble_eq_true rfl) (Nat.le_of_ble_eq_true rfl) (Nat.le_of_ble_eq_true rfl) (kc_0 V _) rfl dX8_feed_22 (c_X8_addBytes V _ _ _ h22) ?_
    refine x_aload_n C 25 0 dX8_feed_25 rfl ?_
    refine x_iload_n C 26 3 dX8_feed_26 rfl ?_
    refine Y_bnd1 (fun s_27 h27 => ?_)
    refine x_callVv C 27 [.int v3] [] rfl tw_1267 mv_X8_addBytes (Nat.le_of_ble_eq_true rfl) (Nat.le_of_ble_eq_true rfl) (Nat.le_of_ble_eq_true rfl) (Nat.le_of_ble_eq_true rfl) (kc_0 V _) rfl dX8_feed_27 (c_X8_addBytes V _ _ _ h27) ?_
    refine x_aload_n C 30 0 dX8_feed_30 rfl ?_
    refine x_iload C 31 4 dX8_feed_31 rfl ?_
    refine Y_bnd1 (fun s_33 h33 => ?_)
    refine x_callVv C 33 [.int v4] [] rfl tw_1267 mv_X8_addBytes (Nat.le_of_ble_eq_true rfl) (Nat.le_of_ble_eq_true rfl) (Nat.le_of_ble_eq_true rfl) (Nat.le_of_ble_eq_true rfl) (kc_0 V _) rfl dX8_feed_33 (c_X8_addBytes V _ _ _ h33) ?_
    refine x_aload_n C 36 0 dX8_feed_36 rfl ?_
    refine x_iload C 37 5 dX8_feed_37 rfl ?_
    refine Y_bnd1 (fun s_39 h39 => ?_)
    refine x_callVv C 39 [.int v5] [] rfl tw_1267 mv_X8_addBytes (Nat.le_of_ble_eq_true rfl) (Nat.le_of_ble_eq_true rfl) (Nat.le_of_ble_eq_true rfl) (Nat.le_of_ble_eq_true rfl) (kc_0 V _) rfl dX8_feed_39 (c_X8_addBytes V _ _ _ h39) ?_
    refine x_aload_n C 42 0 dX8_feed_42 rfl ?_
    refine fgc_X8_13 C 43 dX8_feed_43 ?_
    exact x_iret2 C R 46 dX8_feed_46
  · refine x_iconst C 13 dX8_feed_13 ki_m1 ?_
    exact x_iret2 C R 14 dX8_feed_14
def M_X8_back (σ : Wd) (v1 : Int32) : Option (Int32 × Wd) :=
  if v1 < 0 then (some ((-1 : Int32), σ)) else (if v1 ≤ (gI σ 0 1) then (lt (uI σ 0 1 ((gI σ 0 1) - v1)) fun s_21 => some ((gI s_21 0 1), s_21)) else (some ((-1 : Int32), σ)))
set_option maxRecDepth 100000 in
set_option maxHeartbeats 4000000 in
theorem c_X8_back (V : Ct_V) (l : Launch) (σ : Wd) (v1 : Int32) {r : Int32} {σ2 : Wd} (h : M_X8_back σ v1 = some (r, σ2)) : Ct l (Zc V) yX8_back cX8_back 2 (some .int) 0 0 [.ref (zA (Zc V) 0), .int v1] σ (some (.int r)) σ2 := by
  refine Ct_intro (own := RX8) zc_ok (by decide +kernel) rfl (Nat.le_of_ble_eq_true rfl) [(0, .ref (zA (Zc V) 0)), (1, .int v1)] rfl (fun K C R hKl hnL => ?_)
  have hN := nl_of hnL
  subst hKl
  refine Y_end h ?_
  unfold M_X8_back
  refine x_iload_n C 0 1 dX8_back_0 rfl ?_
  refine x_if_lt C 1 12 dX8_back_1 (by decide) (fun _ => ?_) (fun _ => ?_)
  · refine x_iconst C 12 dX8_back_12 ki_m1 ?_
    exact x_iret2 C R 13 dX8_back_13
  · refine x_iload_n C 4 1 dX8_back_4 rfl ?_
    refine x_aload_n C 5 0 dX8_back_5 rfl ?_
    refine fgc_X8_13 C 6 dX8_back_6 ?_
    refine x_icmp_le C 9 14 dX8_back_9 (by decide) (fun _ => ?_) (fun _ => ?_)
    · refine x_aload_n C 14 0 dX8_back_14 rfl ?_
      refine x_dup C 15 dX8_back_15 rfl ?_
      refine fgc_X8_13 C 16 dX8_back_16 ?_
      refine x_iload_n C 19 1 dX8_back_19 rfl ?_
      refine x_isub C 20 dX8_back_20 ?_
      refine fpc_X8_13 C 21 dX8_back_21 (fun s_21 => ?_)
      refine x_aload_n C 24 0 dX8_back_24 rfl ?_
      refine fgc_X8_13 C 25 dX8_back_25 ?_
      exact x_iret2 C R 28 dX8_back_28
    · refine x_iconst C 12 dX8_back_12 ki_m1 ?_
      exact x_iret2 C R 13 dX8_back_13
def M_X8_beginAnew_L30 (v1 : Int32) (σ : Wd) : Option ((Int32 × Wd) ⊕ (Wd)) :=
  if (3 : Int32) ≤ v1 then (some (.inr σ)) else (chk (ib v1 3) (lt (uI σ 65 (ix v1) (vp_nar .boolean (0 : Int32))) fun s_41 => lt (v1 + (1 : Int32)) fun v1_42 => some (.inl (v1_42, s_41))))
def M_X8_beginAnew (σ : Wd) : Option Wd :=
  chk (famT (gR σ 0 4)) (chk (famT (gR σ 0 4)) (bnd1 (M_X1_begin σ (gI σ (gR σ 0 4) 0) (gI σ (gR σ 0 4) 1)) fun s_18 => bnd1 (M_X2_forget s_18) fun s_25 => bnd1 (iter (fun s : Int32 × Wd => M_X8_beginAnew_L30 s.1 s.2) FU ((0 : Int32), s_25)) (un1 fun sx_30 => (some sx_30))))
set_option maxRecDepth 100000 in
set_option maxHeartbeats 4000000 in
theorem c_X8_beginAnew (V : Ct_V) (l : Launch) (σ : Wd) {σ2 : Wd} (h : M_X8_beginAnew σ = some σ2) : Ct l (Zc V) yX8_beginAnew cX8_beginAnew 2 none 1 23 [.ref (zA (Zc V) 0)] σ none σ2 := by
  refine Ct_intro (own := RX8) zc_ok (by decide +kernel) rfl (Nat.le_of_ble_eq_true rfl) [(0, .ref (zA (Zc V) 0))] rfl (fun K C R hKl hnL => ?_)
  have hN := nl_of hnL
  subst hKl
  refine Y_end h ?_
  unfold M_X8_beginAnew
  refine x_aload_n C 0 0 dX8_beginAnew_0 rfl ?_
  refine fgc_X8_42 C 1 dX8_beginAnew_1 ?_
  refine x_aload_n C 4 0 dX8_beginAnew_4 rfl ?_
  refine fgc_X8_23 C 5 dX8_beginAnew_5 ?_
  refine Y_chk (fun hf5 => ?_)
  refine fgf_X8_78 (hf5) C 8 dX8_beginAnew_8 ?_
  refine x_aload_n C 11 0 dX8_beginAnew_11 rfl ?_
  refine fgc_X8_23 C 12 dX8_beginAnew_12 ?_
  refine Y_chk (fun hf12 => ?_)
  refine fgf_X8_81 (hf12) C 15 dX8_beginAnew_15 ?_
  refine Y_bnd1 (fun s_18 h18 => ?_)
  refine x_callVv C 18 [.int (gI σ (gR σ 0 4) 0), .int (gI σ (gR σ 0 4) 1)] [] rfl tw_353 mv_X1_begin (Nat.le_of_ble_eq_true rfl) (Nat.le_of_ble_eq_true rfl) (Nat.le_of_ble_eq_true rfl) (Nat.le_of_ble_eq_true rfl) (kc_28 V _) rfl dX8_beginAnew_18 (c_X1_begin V _ _ _ _ h18) ?_
  refine x_aload_n C 21 0 dX8_beginAnew_21 rfl ?_
  refine fgc_X8_49 C 22 dX8_beginAnew_22 ?_
  refine Y_bnd1 (fun s_25 h25 => ?_)
  refine x_callVv C 25 [] [] rfl tw_626 mv_X2_forget (Nat.le_of_ble_eq_true rfl) (Nat.le_of_ble_eq_true rfl) (Nat.le_of_ble_eq_true rfl) (Nat.le_of_ble_eq_true rfl) (kc_66 V _) rfl dX8_beginAnew_25 (c_X2_forget V _ _  h25) ?_
  refine x_iconst C 28 dX8_beginAnew_28 ki_0 ?_
  refine x_istore_n C 29 (L' := [(1, .int (0 : Int32)), (0, .ref (zA (Zc V) 0))]) dX8_beginAnew_29 rfl (hN _ (Nat.le_of_ble_eq_true rfl)) rfl ?_
  refine Y_sub [1, 0] rfl ?_
  refine x_loop 30 (fun s : Int32 × Wd => s.2) (fun s : Int32 × Wd => [(0, .ref (zA (Zc V) 0)), (1, .int s.1)]) (fun E30 hb30 hx30 s => ?_) FU ((0 : Int32), s_25)
  obtain ⟨v1_30, s_30⟩ := s
  show Y K (Zc V) (M_X8_beginAnew_L30 v1_30 s_30) E30 s_30 30 [(0, .ref (zA (Zc V) 0)), (1, .int v1_30)] []
  unfold M_X8_beginAnew_L30
  refine x_iload_n C 30 1 dX8_beginAnew_30 rfl ?_
  refine x_iconst C 31 dX8_beginAnew_31 ki_3 ?_
  refine x_icmp_ge C 32 48 dX8_beginAnew_32 (by decide) (fun _ => ?_) (fun _ => ?_)
  · refine x_ex1 hx30 s_30 ?_
    exact x_vret C R 48 dX8_beginAnew_48
  · refine x_aload_n C 35 0 dX8_beginAnew_35 rfl ?_
    refine fgc_X8_57 C 36 dX8_beginAnew_36 ?_
    refine x_iload_n C 39 1 dX8_beginAnew_39 rfl ?_
    refine x_iconst C 40 dX8_beginAnew_40 ki_0 ?_
    refine x_zast C 41 (Nat.le_of_ble_eq_true rfl) (kc_65 V) dX8_beginAnew_41 (fun _ s_41 => ?_)
    refine x_iinct C 42 1 (1 : Int32) (fun v1_42 => [(1, .int v1_42), (0, .ref (zA (Zc V) 0))]) dX8_beginAnew_42 rfl ki_1 (hN _ (Nat.le_of_ble_eq_true rfl)) (fun _ => rfl) (fun v1_42 => ?_)
    refine x_goto C 45 30 dX8_beginAnew_45 (by decide) ?_
    refine Y_sub [1, 0] rfl ?_
    exact x_back (v1_42, s_41) (hb30 (v1_42, s_41))
def M_X8_read (σ : Wd) : Option (Int32 × Wd) :=
  chk (famT (gR σ 0 5)) (bnd2 (M_X3_readInto σ (gI σ 0 1) (gR σ 0 5)) fun r16 s_16 => bnd1 (M_X3_placeOfFault s_16) fun r25 => lt (uI s_16 0 2 r25) fun s_28 => lt (uI s_28 0 1 (0 : Int32)) fun s_33 => if r16 ≠ 0 then (some (r16, s_33)) else (chk (famT (gR s_33 0 4)) (chk (famT (gR s_33 0 5)) (lt (uR s_33 0 4 (gR s_33 0 5)) fun s_50 => lt (uR s_50 0 5 (gR s_33 0 4)) fun s_55 => bnd1 (M_X8_beginAnew s_55) fun s_59 => some (r16, s_59)))))
set_option maxRecDepth 100000 in
set_option maxHeartbeats 4000000 in
theorem c_X8_read (V : Ct_V) (l : Launch) (σ : Wd) {r : Int32} {σ2 : Wd} (h : M_X8_read σ = some (r, σ2)) : Ct l (Zc V) yX8_read cX8_read 3 (some .int) 7 167 [.ref (zA (Zc V) 0)] σ (some (.int r)) σ2 := by
  refine Ct_intro (own := RX8) zc_ok (by decide +kernel) rfl (Nat.le_of_ble_eq_true rfl) [(0, .ref (zA (Zc V) 0))] rfl (fun K C R hKl hnL => ?_)
  have hN := nl_of hnL
  subst hKl
  refine Y_end h ?_
  unfold M_X8_read
  refine x_aload_n C 0 0 dX8_read_0 rfl ?_
  refine fgc_X8_35 C 1 dX8_read_1 ?_
  refine x_aload_n C 4 0 dX8_read_4 rfl ?_
  refine fgc_X8_9 C 5 dX8_read_5 ?_
  refine x_aload_n C 8 0 dX8_read_8 rfl ?_
  refine fgc_X8_13 C 9 dX8_read_9 ?_
  refine x_aload_n C 12 0 dX8_read_12 rfl ?_
  refine fgc_X8_27 C 13 dX8_read_13 ?_
  refine Y_chk (fun hf13 => ?_)
  refine Y_bnd2 (fun r16 s_16 h16 => ?_)
  refine x_callVi C 16 [.ref (zA (Zc V) 1), .int (gI σ 0 1), .ref (zA (Zc V) (gR σ 0 5))] [] rfl tw_401 mv_X3_readInto (Nat.le_of_ble_eq_true rfl) (Nat.le_of_ble_eq_true rfl) (Nat.le_of_ble_eq_true rfl) (Nat.le_of_ble_eq_true rfl) (kc_2 V _) rfl dX8_read_16 (c_X3_readInto V _ _ _ _ hf13 h16) ?_
  refine x_istore_n C 19 (L' := [(1, .int r16), (0, .ref (zA (Zc V) 0))]) dX8_read_19 rfl (hN _ (Nat.le_of_ble_eq_true rfl)) rfl ?_
  refine x_aload_n C 20 1 dX8_read_20 rfl ?_
  refine x_aload_n C 21 1 dX8_read_21 rfl ?_
  refine fgc_X8_35 C 22 dX8_read_22 ?_
  refine Y_bnd1 (fun r25 h25 => ?_)
  refine x_callVi C 25 [] [.ref (zA (Zc V) 0)] rfl tw_618 mv_X3_placeOfFault (Nat.le_of_ble_eq_true rfl) (Nat.le_of_ble_eq_true rfl) (Nat.le_of_ble_eq_true rfl) (Nat.le_of_ble_eq_true rfl) (kc_2 V _) rfl dX8_read_25 (c_X3_placeOfFault V _ _  h25) ?_
  refine fpc_X8_17 C 28 dX8_read_28 (fun s_28 => ?_)
  refine x_aload_n C 31 1 dX8_read_31 rfl ?_
  refine x_iconst C 32 dX8_read_32 ki_0 ?_
  refine fpc_X8_13 C 33 dX8_read_33 (fun s_33 => ?_)
  refine x_iload_n C 36 0 dX8_read_36 rfl ?_
  refine x_if_ne C 37 62 dX8_read_37 (by decide) (fun _ => ?_) (fun _ => ?_)
  · refine x_iload_n C 62 0 dX8_read_62 rfl ?_
    exact x_iret2 C R 63 dX8_read_63
  · refine x_aload_n C 40 1 dX8_read_40 rfl ?_
    refine fgc_X8_23 C 41 dX8_read_41 ?_
    refine Y_chk (fun hf41 => ?_)
    refine x_astore_n C 44 (L' := [(2, .ref (zA (Zc V) (gR s_33 0 4))), (1, .int r16), (0, .ref (zA (Zc V) 0))]) dX8_read_44 rfl (hN _ (Nat.le_of_ble_eq_true rfl)) rfl ?_
    refine x_aload_n C 45 2 dX8_read_45 rfl ?_
    refine x_aload_n C 46 2 dX8_read_46 rfl ?_
    refine fgc_X8_27 C 47 dX8_read_47 ?_
    refine Y_chk (fun hf47 => ?_)
    refine fpc_X8_23 C 50 dX8_read_50 (fun s_50 => ?_)
    refine x_aload_n C 53 2 dX8_read_53 rfl ?_
    refine x_aload_n C 54 0 dX8_read_54 rfl ?_
    refine fpc_X8_27 C 55 dX8_read_55 (fun s_55 => ?_)
    refine x_aload_n C 58 2 dX8_read_58 rfl ?_
    refine Y_bnd1 (fun s_59 h59 => ?_)
    refine x_callVv C 59 [] [] rfl tw_622 mv_X8_beginAnew (Nat.le_of_ble_eq_true rfl) (Nat.le_of_ble_eq_true rfl) (Nat.le_of_ble_eq_true rfl) (Nat.le_of_ble_eq_true rfl) (kc_0 V _) rfl dX8_read_59 (c_X8_beginAnew V _ _  h59) ?_
    refine x_iload_n C 62 1 dX8_read_62 rfl ?_
    exact x_iret2 C R 63 dX8_read_63
def M_X8_isSession (v0 : Int32) : Option Int32 :=
  if v0 < 0 then (some (0 : Int32)) else (if (4 : Int32) ≤ v0 then (some (0 : Int32)) else (some (1 : Int32)))
set_option maxRecDepth 100000 in
set_option maxHeartbeats 4000000 in
theorem c_X8_isSession (V : Ct_V) (l : Launch) (σ : Wd) (v0 : Int32) {r : Int32} (h : M_X8_isSession v0 = some r) : Ct l (Zc V) yX8_isSession cX8_isSession 1 (some .boolean) 0 0 [.int v0] σ (some (.int r)) σ := by
  refine Ct_intro (own := RX8) zc_ok (by decide +kernel) rfl (Nat.le_of_ble_eq_true rfl) [(0, .int v0)] rfl (fun K C R hKl hnL => ?_)
  have hN := nl_of hnL
  subst hKl
  refine Y_end h ?_
  unfold M_X8_isSession
  refine x_iload_n C 0 0 dX8_isSession_0 rfl ?_
  refine x_if_lt C 1 13 dX8_isSession_1 (by decide) (fun _ => ?_) (fun _ => ?_)
  · refine x_iconst C 13 dX8_isSession_13 ki_0 ?_
    exact x_zret1 C R 14 (zb_nar (r := (0 : Int32)) (Or.inl rfl)) dX8_isSession_14
  · refine x_iload_n C 4 0 dX8_isSession_4 rfl ?_
    refine x_iconst C 5 dX8_isSession_5 ki_4 ?_
    refine x_icmp_ge C 6 13 dX8_isSession_6 (by decide) (fun _ => ?_) (fun _ => ?_)
    · refine x_iconst C 13 dX8_isSession_13 ki_0 ?_
      exact x_zret1 C R 14 (zb_nar (r := (0 : Int32)) (Or.inl rfl)) dX8_isSession_14
    · refine x_iconst C 9 dX8_isSession_9 ki_1 ?_
      refine x_goto C 10 14 dX8_isSession_10 (by decide) ?_
      exact x_zret1 C R 14 (zb_nar (r := (1 : Int32)) (Or.inr rfl)) dX8_isSession_14
def M_X8_isCopy (σ : Wd) (v1 : Int32) : Option Int32 :=
  if v1 < 0 then (some (0 : Int32)) else (chk (famT (gR σ 0 4)) (if (gI σ (gR σ 0 4) 0) ≤ v1 then (some (0 : Int32)) else (some (1 : Int32))))
set_option maxRecDepth 100000 in
set_option maxHeartbeats 4000000 in
theorem c_X8_isCopy (V : Ct_V) (l : Launch) (σ : Wd) (v1 : Int32) {r : Int32} (h : M_X8_isCopy σ v1 = some r) : Ct l (Zc V) yX8_isCopy cX8_isCopy 2 (some .boolean) 0 0 [.ref (zA (Zc V) 0), .int v1] σ (some (.int r)) σ := by
  refine Ct_intro (own := RX8) zc_ok (by decide +kernel) rfl (Nat.le_of_ble_eq_true rfl) [(0, .ref (zA (Zc V) 0)), (1, .int v1)] rfl (fun K C R hKl hnL => ?_)
  have hN := nl_of hnL
  subst hKl
  refine Y_end h ?_
  unfold M_X8_isCopy
  refine x_iload_n C 0 1 dX8_isCopy_0 rfl ?_
  refine x_if_lt C 1 19 dX8_isCopy_1 (by decide) (fun _ => ?_) (fun _ => ?_)
  · refine x_iconst C 19 dX8_isCopy_19 ki_0 ?_
    exact x_zret1 C R 20 (zb_nar (r := (0 : Int32)) (Or.inl rfl)) dX8_isCopy_20
  · refine x_iload_n C 4 1 dX8_isCopy_4 rfl ?_
    refine x_aload_n C 5 0 dX8_isCopy_5 rfl ?_
    refine fgc_X8_23 C 6 dX8_isCopy_6 ?_
    refine Y_chk (fun hf6 => ?_)
    refine fgf_X8_78 (hf6) C 9 dX8_isCopy_9 ?_
    refine x_icmp_ge C 12 19 dX8_isCopy_12 (by decide) (fun _ => ?_) (fun _ => ?_)
    · refine x_iconst C 19 dX8_isCopy_19 ki_0 ?_
      exact x_zret1 C R 20 (zb_nar (r := (0 : Int32)) (Or.inl rfl)) dX8_isCopy_20
    · refine x_iconst C 15 dX8_isCopy_15 ki_1 ?_
      refine x_goto C 16 20 dX8_isCopy_16 (by decide) ?_
      exact x_zret1 C R 20 (zb_nar (r := (1 : Int32)) (Or.inr rfl)) dX8_isCopy_20
def M_X8_make_J132 (σ : Wd) (v2 : Int32) (v6 : Int32) : Option (Int32 × Wd) :=
  bnd1 (M_X1_closeLog σ v2) fun s_137 => some (v6, s_137)
def M_X8_make_J100 (σ : Wd) (v1 : Int32) (v2 : Int32) (v3 : Int32) (v4 : Int32) : Option (Int32 × Wd) :=
  bnd1 (M_X1_writes σ) fun r104 => if r104 < (60 : Int32) then (bnd2 (M_X1_addWrite σ v1 v2 v3 v4) fun r127 s_127 => M_X8_make_J132 s_127 v2 r127) else (M_X8_make_J132 σ v2 (-1 : Int32))
def M_X8_make_J24 (σ : Wd) (v1 : Int32) (v2 : Int32) (v3 : Int32) (v4 : Int32) (v5 : Int32) : Option (Int32 × Wd) :=
  bnd1 (M_X8_isCopy σ v2) fun r26 => if r26 = 0 then (some ((-1 : Int32), σ)) else (if v3 < 0 then (some ((-1 : Int32), σ)) else (chk (famT (gR σ 0 4)) (if v3 < (gI σ (gR σ 0 4) 4) then (bnd1 (M_X2_keep σ) fun s_57 => bnd1 (M_X1_openLog s_57 v2) fun s_65 => if v5 ≠ 0 then (M_X8_make_J100 s_65 v1 v2 v3 v4) else (bnd1 (M_X1_refusesMake s_65 v1 v2) fun r79 => if r79 = 0 then (M_X8_make_J100 s_65 v1 v2 v3 v4) else (bnd1 (M_X1_refuse s_65 v1) fun s_90 => M_X8_make_J132 s_90 v2 (-2 : Int32)))) else (some ((-1 : Int32), σ)))))
def M_X8_make_J10 (σ : Wd) (v1 : Int32) (v2 : Int32) (v3 : Int32) (v4 : Int32) (t0 : Int32) : Option (Int32 × Wd) :=
  if t0 ≠ 0 then (M_X8_make_J24 σ v1 v2 v3 v4 t0) else (bnd1 (M_X8_isSession v1) fun r18 => if r18 = 0 then (some ((-1 : Int32), σ)) else (M_X8_make_J24 σ v1 v2 v3 v4 t0))
def M_X8_make (σ : Wd) (v1 : Int32) (v2 : Int32) (v3 : Int32) (v4 : Int32) : Option (Int32 × Wd) :=
  if v1 ≠ (-1 : Int32) then (M_X8_make_J10 σ v1 v2 v3 v4 (0 : Int32)) else (M_X8_make_J10 σ v1 v2 v3 v4 (1 : Int32))
set_option maxRecDepth 100000 in
set_option maxHeartbeats 4000000 in
theorem c_X8_make (V : Ct_V) (l : Launch) (σ : Wd) (v1 : Int32) (v2 : Int32) (v3 : Int32) (v4 : Int32) {r : Int32} {σ2 : Wd} (h : M_X8_make σ v1 v2 v3 v4 = some (r, σ2)) : Ct l (Zc V) yX8_make cX8_make 7 (some .int) 5 114 [.ref (zA (Zc V) 0), .int v1, .int v2, .int v3, .int v4] σ (some (.int r)) σ2 := by
  refine Ct_intro (own := RX8) zc_ok (by decide +kernel) rfl (Nat.le_of_ble_eq_true rfl) [(0, .ref (zA (Zc V) 0)), (1, .int v1), (2, .int v2), (3, .int v3), (4, .int v4)] rfl (fun K C R hKl hnL => ?_)
  have hN := nl_of hnL
  subst hKl
  refine Y_end h ?_
  unfold M_X8_make
  refine x_iload_n C 0 1 dX8_make_0 rfl ?_
  refine x_iconst C 1 dX8_make_1 ki_m1 ?_
  have hJ10 : ∀ (σ_10 : Wd) (v1_10 : Int32) (v2_10 : Int32) (v3_10 : Int32) (v4_10 : Int32) (t0_10 : Int32), Y K (Zc V) (M_X8_make_J10 σ_10 v1_10 v2_10 v3_10 v4_10 t0_10) (fun q => q = (r, σ2)) σ_10 10 [(0, .ref (zA (Zc V) 0)), (1, .int v1_10), (2, .int v2_10), (3, .int v3_10), (4, .int v4_10)] [.int t0_10] := by
    intro σ_10 v1_10 v2_10 v3_10 v4_10 t0_10
    unfold M_X8_make_J10
    refine x_istore C 10 (L' := [(5, .int t0_10), (0, .ref (zA (Zc V) 0)), (1, .int v1_10), (2, .int v2_10), (3, .int v3_10), (4, .int v4_10)]) dX8_make_10 (hN _ (Nat.le_of_ble_eq_true rfl)) rfl ?_
    refine x_iload C 12 0 dX8_make_12 rfl ?_
    have hJ24 : ∀ (σ_24 : Wd) (v1_24 : Int32) (v2_24 : Int32) (v3_24 : Int32) (v4_24 : Int32) (v5_24 : Int32), Y K (Zc V) (M_X8_make_J24 σ_24 v1_24 v2_24 v3_24 v4_24 v5_24) (fun q => q = (r, σ2)) σ_24 24 [(0, .ref (zA (Zc V) 0)), (1, .int v1_24), (2, .int v2_24), (3, .int v3_24), (4, .int v4_24), (5, .int v5_24)] [] := by
      intro σ_24 v1_24 v2_24 v3_24 v4_24 v5_24
      unfold M_X8_make_J24
      refine x_aload_n C 24 0 dX8_make_24 rfl ?_
      refine x_iload_n C 25 2 dX8_make_25 rfl ?_
      refine Y_bnd1 (fun r26 h26 => ?_)
      refine x_callVi C 26 [.int v2_24] [] rfl tw_637 mv_X8_isCopy (Nat.le_of_ble_eq_true rfl) (Nat.le_of_ble_eq_true rfl) (Nat.le_of_ble_eq_true rfl) (Nat.le_of_ble_eq_true rfl) (kc_0 V _) rfl dX8_make_26 (c_X8_isCopy V _ _ _ h26) ?_
      refine x_if_eq C 29 47 dX8_make_29 (by decide) (fun _ => ?_) (fun _ => ?_)
      · refine x_iconst C 47 dX8_make_47 ki_m1 ?_
        exact x_iret2 C R 48 dX8_make_48
      · refine x_iload_n C 32 3 dX8_make_32 rfl ?_
        refine x_if_lt C 33 47 dX8_make_33 (by decide) (fun _ => ?_) (fun _ => ?_)
        · refine x_iconst C 47 dX8_make_47 ki_m1 ?_
          exact x_iret2 C R 48 dX8_make_48
        · refine x_iload_n C 36 3 dX8_make_36 rfl ?_
          refine x_aload_n C 37 0 dX8_make_37 rfl ?_
          refine fgc_X8_23 C 38 dX8_make_38 ?_
          refine Y_chk (fun hf38 => ?_)
          refine fgf_X8_110 (hf38) C 41 dX8_make_41 ?_
          refine x_icmp_lt C 44 49 dX8_make_44 (by decide) (fun _ => ?_) (fun _ => ?_)
          · refine x_aload_n C 49 0 dX8_make_49 rfl ?_
            refine fgc_X8_49 C 50 dX8_make_50 ?_
            refine x_aload_n C 53 0 dX8_make_53 rfl ?_
            refine fgc_X8_42 C 54 dX8_make_54 ?_
            refine Y_bnd1 (fun s_57 h57 => ?_)
            refine x_callVv C 57 [.ref (zA (Zc V) 28)] [] rfl tw_641 mv_X2_keep (Nat.le_of_ble_eq_true rfl) (Nat.le_of_ble_eq_true rfl) (Nat.le_of_ble_eq_true rfl) (Nat.le_of_ble_eq_true rfl) (kc_66 V _) rfl dX8_make_57 (c_X2_keep V _ _  h57) ?_
            refine x_aload_n C 60 0 dX8_make_60 rfl ?_
            refine fgc_X8_42 C 61 dX8_make_61 ?_
            refine x_iload_n C 64 2 dX8_make_64 rfl ?_
            refine Y_bnd1 (fun s_65 h65 => ?_)
            refine x_callVv C 65 [.int v2_24] [] rfl tw_649 mv_X1_openLog (Nat.le_of_ble_eq_true rfl) (Nat.le_of_ble_eq_true rfl) (Nat.le_of_ble_eq_true rfl) (Nat.le_of_ble_eq_true rfl) (kc_28 V _) rfl dX8_make_65 (c_X1_openLog V _ _ _ h65) ?_
            refine x_iload C 68 5 dX8_make_68 rfl ?_
            have hJ132 : ∀ (σ_132 : Wd) (v2_132 : Int32) (v6_132 : Int32), Y K (Zc V) (M_X8_make_J132 σ_132 v2_132 v6_132) (fun q => q = (r, σ2)) σ_132 132 [(0, .ref (zA (Zc V) 0)), (2, .int v2_132), (6, .int v6_132)] [] := by
              intro σ_132 v2_132 v6_132
              unfold M_X8_make_J132
              refine x_aload_n C 132 0 dX8_make_132 rfl ?_
              refine fgc_X8_42 C 133 dX8_make_133 ?_
              refine x_iload_n C 136 1 dX8_make_136 rfl ?_
              refine Y_bnd1 (fun s_137 h137 => ?_)
              refine x_callVv C 137 [.int v2_132] [] rfl tw_724 mv_X1_closeLog (Nat.le_of_ble_eq_true rfl) (Nat.le_of_ble_eq_true rfl) (Nat.le_of_ble_eq_true rfl) (Nat.le_of_ble_eq_true rfl) (kc_28 V _) rfl dX8_make_137 (c_X1_closeLog V _ _ _ h137) ?_
              refine x_iload C 140 2 dX8_make_140 rfl ?_
              exact x_iret2 C R 142 dX8_make_142
            have hJ100 : ∀ (σ_100 : Wd) (v1_100 : Int32) (v2_100 : Int32) (v3_100 : Int32) (v4_100 : Int32), Y K (Zc V) (M_X8_make_J100 σ_100 v1_100 v2_100 v3_100 v4_100) (fun q => q = (r, σ2)) σ_100 100 [(0, .ref (zA (Zc V) 0)), (1, .int v1_100), (2, .int v2_100), (3, .int v3_100), (4, .int v4_100)] [] := by
              intro σ_100 v1_100 v2_100 v3_100 v4_100
              unfold M_X8_make_J100
              refine x_aload_n C 100 0 dX8_make_100 rfl ?_
              refine fgc_X8_42 C 101 dX8_make_101 ?_
              refine Y_bnd1 (fun r104 h104 => ?_)
              refine x_callVi C 104 [] [] rfl tw_689 mv_X1_writes (Nat.le_of_ble_eq_true rfl) (Nat.le_of_ble_eq_true rfl) (Nat.le_of_ble_eq_true rfl) (Nat.le_of_ble_eq_true rfl) (kc_28 V _) rfl dX8_make_104 (c_X1_writes V _ _  h104) ?_
              refine x_bipush C 107 dX8_make_107 kb_60 ?_
              refine x_icmp_lt C 109 118 dX8_make_109 (by decide) (fun _ => ?_) (fun _ => ?_)
              · refine x_aload_n C 118 0 dX8_make_118 rfl ?_
                refine fgc_X8_42 C 119 dX8_make_119 ?_
                refine x_iload_n C 122 1 dX8_make_122 rfl ?_
                refine x_iload_n C 123 2 dX8_make_123 rfl ?_
                refine x_iload_n C 124 3 dX8_make_124 rfl ?_
                refine x_iload C 125 4 dX8_make_125 rfl ?_
                refine Y_bnd2 (fun r127 s_127 h127 => ?_)
                refine x_callVi C 127 [.int v1_100, .int v2_100, .int v3_100, .int v4_100] [] rfl tw_690 mv_X1_addWrite (Nat.le_of_ble_eq_true rfl) (Nat.le_of_ble_eq_true rfl) (Nat.le_of_ble_eq_true rfl) (Nat.le_of_ble_eq_true rfl) (kc_28 V _) rfl dX8_make_127 (c_X1_addWrite V _ _ _ _ _ _ h127) ?_
                refine x_istore C 130 (L' := [(6, .int r127), (0, .ref (zA (Zc V) 0)), (1, .int v1_100), (2, .int v2_100), (3, .int v3_100), (4, .int v4_100)]) dX8_make_130 (hN _ (Nat.le_of_ble_eq_true rfl)) rfl ?_
                refine Y_sub [1, 3, 0] rfl ?_
                exact hJ132 _ _ _
              · refine x_iconst C 112 dX8_make_112 ki_m1 ?_
                refine x_istore C 113 (L' := [(6, .int (-1 : Int32)), (0, .ref (zA (Zc V) 0)), (1, .int v1_100), (2, .int v2_100), (3, .int v3_100), (4, .int v4_100)]) dX8_make_113 (hN _ (Nat.le_of_ble_eq_true rfl)) rfl ?_
                refine x_goto C 115 132 dX8_make_115 (by decide) ?_
                refine Y_sub [1, 3, 0] rfl ?_
                exact hJ132 _ _ _
            refine x_if_ne C 70 100 dX8_make_70 (by decide) (fun _ => ?_) (fun _ => ?_)
            · refine Y_sub [0, 1, 2, 3, 4] rfl ?_
              exact hJ100 _ _ _ _ _
            · refine x_aload_n C 73 0 dX8_make_73 rfl ?_
              refine fgc_X8_42 C 74 dX8_make_74 ?_
              refine x_iload_n C 77 1 dX8_make_77 rfl ?_
              refine x_iload_n C 78 2 dX8_make_78 rfl ?_
              refine Y_bnd1 (fun r79 h79 => ?_)
              refine x_callVi C 79 [.int v1_24, .int v2_24] [] rfl tw_653 mv_X1_refusesMake (Nat.le_of_ble_eq_true rfl) (Nat.le_of_ble_eq_true rfl) (Nat.le_of_ble_eq_true rfl) (Nat.le_of_ble_eq_true rfl) (kc_28 V _) rfl dX8_make_79 (c_X1_refusesMake V _ _ _ _ h79) ?_
              refine x_if_eq C 82 100 dX8_make_82 (by decide) (fun _ => ?_) (fun _ => ?_)
              · refine Y_sub [0, 1, 2, 3, 4] rfl ?_
                exact hJ100 _ _ _ _ _
              · refine x_aload_n C 85 0 dX8_make_85 rfl ?_
                refine fgc_X8_42 C 86 dX8_make_86 ?_
                refine x_iload_n C 89 1 dX8_make_89 rfl ?_
                refine Y_bnd1 (fun s_90 h90 => ?_)
                refine x_callVv C 90 [.int v1_24] [] rfl tw_685 mv_X1_refuse (Nat.le_of_ble_eq_true rfl) (Nat.le_of_ble_eq_true rfl) (Nat.le_of_ble_eq_true rfl) (Nat.le_of_ble_eq_true rfl) (kc_28 V _) rfl dX8_make_90 (c_X1_refuse V _ _ _ h90) ?_
                refine x_bipush C 93 dX8_make_93 kb_m2 ?_
                refine x_istore C 95 (L' := [(6, .int (-2 : Int32)), (0, .ref (zA (Zc V) 0)), (1, .int v1_24), (2, .int v2_24), (3, .int v3_24), (4, .int v4_24), (5, .int v5_24)]) dX8_make_95 (hN _ (Nat.le_of_ble_eq_true rfl)) rfl ?_
                refine x_goto C 97 132 dX8_make_97 (by decide) ?_
                refine Y_sub [1, 3, 0] rfl ?_
                exact hJ132 _ _ _
          · refine x_iconst C 47 dX8_make_47 ki_m1 ?_
            exact x_iret2 C R 48 dX8_make_48
    refine x_if_ne C 14 24 dX8_make_14 (by decide) (fun _ => ?_) (fun _ => ?_)
    · refine Y_sub [1, 2, 3, 4, 5, 0] rfl ?_
      exact hJ24 _ _ _ _ _ _
    · refine x_iload_n C 17 2 dX8_make_17 rfl ?_
      refine Y_bnd1 (fun r18 h18 => ?_)
      refine x_callSi C 18 [.int v1_10] [] rfl tw_634 ms_X8_isSession (Nat.le_of_ble_eq_true rfl) (Nat.le_of_ble_eq_true rfl) (Nat.le_of_ble_eq_true rfl) dX8_make_18 (c_X8_isSession V _ _ _ h18) ?_
      refine x_if_eq C 21 47 dX8_make_21 (by decide) (fun _ => ?_) (fun _ => ?_)
      · refine x_iconst C 47 dX8_make_47 ki_m1 ?_
        exact x_iret2 C R 48 dX8_make_48
      · refine Y_sub [1, 2, 3, 4, 5, 0] rfl ?_
        exact hJ24 _ _ _ _ _ _
  refine x_icmp_ne C 2 9 dX8_make_2 (by decide) (fun _ => ?_) (fun _ => ?_)
  · refine x_iconst C 9 dX8_make_9 ki_0 ?_
    exact hJ10 _ _ _ _ _ _
  · refine x_iconst C 5 dX8_make_5 ki_1 ?_
    refine x_goto C 6 10 dX8_make_6 (by decide) ?_
    exact hJ10 _ _ _ _ _ _
def M_X8_isCell (σ : Wd) (v1 : Int32) : Option Int32 :=
  if v1 < 0 then (some (0 : Int32)) else (chk (famT (gR σ 0 4)) (if (gI σ (gR σ 0 4) 3) ≤ v1 then (some (0 : Int32)) else (some (1 : Int32))))
set_option maxRecDepth 100000 in
set_option maxHeartbeats 4000000 in
theorem c_X8_isCell (V : Ct_V) (l : Launch) (σ : Wd) (v1 : Int32) {r : Int32} (h : M_X8_isCell σ v1 = some r) : Ct l (Zc V) yX8_isCell cX8_isCell 2 (some .boolean) 0 0 [.ref (zA (Zc V) 0), .int v1] σ (some (.int r)) σ := by
  refine Ct_intro (own := RX8) zc_ok (by decide +kernel) rfl (Nat.le_of_ble_eq_true rfl) [(0, .ref (zA (Zc V) 0)), (1, .int v1)] rfl (fun K C R hKl hnL => ?_)
  have hN := nl_of hnL
  subst hKl
  refine Y_end h ?_
  unfold M_X8_isCell
  refine x_iload_n C 0 1 dX8_isCell_0 rfl ?_
  refine x_if_lt C 1 19 dX8_isCell_1 (by decide) (fun _ => ?_) (fun _ => ?_)
  · refine x_iconst C 19 dX8_isCell_19 ki_0 ?_
    exact x_zret1 C R 20 (zb_nar (r := (0 : Int32)) (Or.inl rfl)) dX8_isCell_20
  · refine x_iload_n C 4 1 dX8_isCell_4 rfl ?_
    refine x_aload_n C 5 0 dX8_isCell_5 rfl ?_
    refine fgc_X8_23 C 6 dX8_isCell_6 ?_
    refine Y_chk (fun hf6 => ?_)
    refine fgf_X8_285 (hf6) C 9 dX8_isCell_9 ?_
    refine x_icmp_ge C 12 19 dX8_isCell_12 (by decide) (fun _ => ?_) (fun _ => ?_)
    · refine x_iconst C 19 dX8_isCell_19 ki_0 ?_
      exact x_zret1 C R 20 (zb_nar (r := (0 : Int32)) (Or.inl rfl)) dX8_isCell_20
    · refine x_iconst C 15 dX8_isCell_15 ki_1 ?_
      refine x_goto C 16 20 dX8_isCell_16 (by decide) ?_
      exact x_zret1 C R 20 (zb_nar (r := (1 : Int32)) (Or.inr rfl)) dX8_isCell_20
def M_X8_ask_J104 (σ : Wd) (v2 : Int32) (v4 : Int32) : Option (Int32 × Wd) :=
  bnd1 (M_X1_closeLog σ v2) fun s_109 => if v4 = 0 then (some ((1 : Int32), s_109)) else (some ((0 : Int32), s_109))
def M_X8_ask (σ : Wd) (v1 : Int32) (v2 : Int32) (v3 : Int32) : Option (Int32 × Wd) :=
  bnd1 (M_X8_isSession v1) fun r1 => if r1 = 0 then (some ((-1 : Int32), σ)) else (bnd1 (M_X8_isCopy σ v2) fun r9 => if r9 = 0 then (some ((-1 : Int32), σ)) else (bnd1 (M_X8_isCell σ v3) fun r17 => if r17 ≠ 0 then (bnd1 (M_X2_keep σ) fun s_33 => bnd1 (M_X1_openLog s_33 v2) fun s_41 => bnd1 (M_X1_refusesAsk s_41 v1 v2) fun r50 => if r50 = 0 then (chk (famT (gR s_41 0 4)) (bnd1 (M_X4_play s_41 108 (gR s_41 0 4) v2) fun s_84 => bnd1 (M_X4_lastOf s_84 108 v3) fun r98 => bnd1 (M_X1_tellTo s_84 v1 v2 r98) fun s_101 => M_X8_ask_J104 s_101 v2 r50)) else (bnd1 (M_X1_refuse s_41 v1) fun s_65 => M_X8_ask_J104 s_65 v2 r50)) else (some ((-1 : Int32), σ))))
set_option maxRecDepth 100000 in
set_option maxHeartbeats 4000000 in
theorem c_X8_ask (V : Ct_V) (l : Launch) (σ : Wd) (v1 : Int32) (v2 : Int32) (v3 : Int32) {r : Int32} {σ2 : Wd} (h : M_X8_ask σ v1 v2 v3 = some (r, σ2)) : Ct l (Zc V) yX8_ask cX8_ask 5 (some .int) 5 113 [.ref (zA (Zc V) 0), .int v1, .int v2, .int v3] σ (some (.int r)) σ2 := by
  refine Ct_intro (own := RX8) zc_ok (by decide +kernel) rfl (Nat.le_of_ble_eq_true rfl) [(0, .ref (zA (Zc V) 0)), (1, .int v1), (2, .int v2), (3, .int v3)] rfl (fun K C R hKl hnL => ?_)
  have hN := nl_of hnL
  subst hKl
  refine Y_end h ?_
  unfold M_X8_ask
  refine x_iload_n C 0 1 dX8_ask_0 rfl ?_
  refine Y_bnd1 (fun r1 h1 => ?_)
  refine x_callSi C 1 [.int v1] [] rfl tw_634 ms_X8_isSession (Nat.le_of_ble_eq_true rfl) (Nat.le_of_ble_eq_true rfl) (Nat.le_of_ble_eq_true rfl) dX8_ask_1 (c_X8_isSession V _ _ _ h1) ?_
  refine x_if_eq C 4 23 dX8_ask_4 (by decide) (fun _ => ?_) (fun _ => ?_)
  · refine x_iconst C 23 dX8_ask_23 ki_m1 ?_
    exact x_iret2 C R 24 dX8_ask_24
  · refine x_aload_n C 7 0 dX8_ask_7 rfl ?_
    refine x_iload_n C 8 2 dX8_ask_8 rfl ?_
    refine Y_bnd1 (fun r9 h9 => ?_)
    refine x_callVi C 9 [.int v2] [] rfl tw_637 mv_X8_isCopy (Nat.le_of_ble_eq_true rfl) (Nat.le_of_ble_eq_true rfl) (Nat.le_of_ble_eq_true rfl) (Nat.le_of_ble_eq_true rfl) (kc_0 V _) rfl dX8_ask_9 (c_X8_isCopy V _ _ _ h9) ?_
    refine x_if_eq C 12 23 dX8_ask_12 (by decide) (fun _ => ?_) (fun _ => ?_)
    · refine x_iconst C 23 dX8_ask_23 ki_m1 ?_
      exact x_iret2 C R 24 dX8_ask_24
    · refine x_aload_n C 15 0 dX8_ask_15 rfl ?_
      refine x_iload_n C 16 3 dX8_ask_16 rfl ?_
      refine Y_bnd1 (fun r17 h17 => ?_)
      refine x_callVi C 17 [.int v3] [] rfl tw_736 mv_X8_isCell (Nat.le_of_ble_eq_true rfl) (Nat.le_of_ble_eq_true rfl) (Nat.le_of_ble_eq_true rfl) (Nat.le_of_ble_eq_true rfl) (kc_0 V _) rfl dX8_ask_17 (c_X8_isCell V _ _ _ h17) ?_
      refine x_if_ne C 20 25 dX8_ask_20 (by decide) (fun _ => ?_) (fun _ => ?_)
      · refine x_aload_n C 25 0 dX8_ask_25 rfl ?_
        refine fgc_X8_49 C 26 dX8_ask_26 ?_
        refine x_aload_n C 29 0 dX8_ask_29 rfl ?_
        refine fgc_X8_42 C 30 dX8_ask_30 ?_
        refine Y_bnd1 (fun s_33 h33 => ?_)
        refine x_callVv C 33 [.ref (zA (Zc V) 28)] [] rfl tw_641 mv_X2_keep (Nat.le_of_ble_eq_true rfl) (Nat.le_of_ble_eq_true rfl) (Nat.le_of_ble_eq_true rfl) (Nat.le_of_ble_eq_true rfl) (kc_66 V _) rfl dX8_ask_33 (c_X2_keep V _ _  h33) ?_
        refine x_aload_n C 36 0 dX8_ask_36 rfl ?_
        refine fgc_X8_42 C 37 dX8_ask_37 ?_
        refine x_iload_n C 40 2 dX8_ask_40 rfl ?_
        refine Y_bnd1 (fun s_41 h41 => ?_)
        refine x_callVv C 41 [.int v2] [] rfl tw_649 mv_X1_openLog (Nat.le_of_ble_eq_true rfl) (Nat.le_of_ble_eq_true rfl) (Nat.le_of_ble_eq_true rfl) (Nat.le_of_ble_eq_true rfl) (kc_28 V _) rfl dX8_ask_41 (c_X1_openLog V _ _ _ h41) ?_
        refine x_aload_n C 44 0 dX8_ask_44 rfl ?_
        refine fgc_X8_42 C 45 dX8_ask_45 ?_
        refine x_iload_n C 48 1 dX8_ask_48 rfl ?_
        refine x_iload_n C 49 2 dX8_ask_49 rfl ?_
        refine Y_bnd1 (fun r50 h50 => ?_)
        refine x_callVi C 50 [.int v1, .int v2] [] rfl tw_740 mv_X1_refusesAsk (Nat.le_of_ble_eq_true rfl) (Nat.le_of_ble_eq_true rfl) (Nat.le_of_ble_eq_true rfl) (Nat.le_of_ble_eq_true rfl) (kc_28 V _) rfl dX8_ask_50 (c_X1_refusesAsk V _ _ _ _ h50) ?_
        refine x_istore C 53 (L' := [(4, .int r50), (0, .ref (zA (Zc V) 0)), (1, .int v1), (2, .int v2), (3, .int v3)]) dX8_ask_53 (hN _ (Nat.le_of_ble_eq_true rfl)) rfl ?_
        refine x_iload C 55 0 dX8_ask_55 rfl ?_
        have hJ104 : ∀ (σ_104 : Wd) (v2_104 : Int32) (v4_104 : Int32), Y K (Zc V) (M_X8_ask_J104 σ_104 v2_104 v4_104) (fun q => q = (r, σ2)) σ_104 104 [(0, .ref (zA (Zc V) 0)), (2, .int v2_104), (4, .int v4_104)] [] := by
          intro σ_104 v2_104 v4_104
          unfold M_X8_ask_J104
          refine x_aload_n C 104 0 dX8_ask_104 rfl ?_
          refine fgc_X8_42 C 105 dX8_ask_105 ?_
          refine x_iload_n C 108 1 dX8_ask_108 rfl ?_
          refine Y_bnd1 (fun s_109 h109 => ?_)
          refine x_callVv C 109 [.int v2_104] [] rfl tw_724 mv_X1_closeLog (Nat.le_of_ble_eq_true rfl) (Nat.le_of_ble_eq_true rfl) (Nat.le_of_ble_eq_true rfl) (Nat.le_of_ble_eq_true rfl) (kc_28 V _) rfl dX8_ask_109 (c_X1_closeLog V _ _ _ h109) ?_
          refine x_iload C 112 2 dX8_ask_112 rfl ?_
          refine x_if_eq C 114 121 dX8_ask_114 (by decide) (fun _ => ?_) (fun _ => ?_)
          · refine x_iconst C 121 dX8_ask_121 ki_1 ?_
            exact x_iret2 C R 122 dX8_ask_122
          · refine x_iconst C 117 dX8_ask_117 ki_0 ?_
            refine x_goto C 118 122 dX8_ask_118 (by decide) ?_
            exact x_iret2 C R 122 dX8_ask_122
        refine x_if_eq C 57 71 dX8_ask_57 (by decide) (fun _ => ?_) (fun _ => ?_)
        · refine x_aload_n C 71 1 dX8_ask_71 rfl ?_
          refine fgc_X8_64 C 72 dX8_ask_72 ?_
          refine x_aload_n C 75 1 dX8_ask_75 rfl ?_
          refine fgc_X8_23 C 76 dX8_ask_76 ?_
          refine Y_chk (fun hf76 => ?_)
          refine x_aload_n C 79 1 dX8_ask_79 rfl ?_
          refine fgc_X8_42 C 80 dX8_ask_80 ?_
          refine x_iload_n C 83 3 dX8_ask_83 rfl ?_
          refine Y_bnd1 (fun s_84 h84 => ?_)
          refine x_callVv C 84 [.ref (zA (Zc V) (gR s_41 0 4)), .ref (zA (Zc V) 28), .int v2] [] rfl tw_744 mv_X4_play (Nat.le_of_ble_eq_true rfl) (Nat.le_of_ble_eq_true rfl) (Nat.le_of_ble_eq_true rfl) (ltP_0 (by decide)) (kP_0 V (by decide) _) rfl dX8_ask_84 (c_X4_play V _ _ _ (by decide) _ hf76 _ h84) ?_
          refine x_aload_n C 87 1 dX8_ask_87 rfl ?_
          refine fgc_X8_42 C 88 dX8_ask_88 ?_
          refine x_iload_n C 91 2 dX8_ask_91 rfl ?_
          refine x_iload_n C 92 3 dX8_ask_92 rfl ?_
          refine x_aload_n C 93 1 dX8_ask_93 rfl ?_
          refine fgc_X8_64 C 94 dX8_ask_94 ?_
          refine x_iload_n C 97 4 dX8_ask_97 rfl ?_
          refine Y_bnd1 (fun r98 h98 => ?_)
          refine x_callVi C 98 [.int v3] [.int v2, .int v1, .ref (zA (Zc V) 28)] rfl tw_772 mv_X4_lastOf (Nat.le_of_ble_eq_true rfl) (Nat.le_of_ble_eq_true rfl) (Nat.le_of_ble_eq_true rfl) (ltP_0 (by decide)) (kP_0 V (by decide) _) rfl dX8_ask_98 (c_X4_lastOf V _ _ _ (by decide) _ h98) ?_
          refine Y_bnd1 (fun s_101 h101 => ?_)
          refine x_callVv C 101 [.int v1, .int v2, .int r98] [] rfl tw_781 mv_X1_tellTo (Nat.le_of_ble_eq_true rfl) (Nat.le_of_ble_eq_true rfl) (Nat.le_of_ble_eq_true rfl) (Nat.le_of_ble_eq_true rfl) (kc_28 V _) rfl dX8_ask_101 (c_X1_tellTo V _ _ _ _ _ h101) ?_
          refine Y_sub [1, 3, 0] rfl ?_
          exact hJ104 _ _ _
        · refine x_aload_n C 60 1 dX8_ask_60 rfl ?_
          refine fgc_X8_42 C 61 dX8_ask_61 ?_
          refine x_iload_n C 64 2 dX8_ask_64 rfl ?_
          refine Y_bnd1 (fun s_65 h65 => ?_)
          refine x_callVv C 65 [.int v1] [] rfl tw_685 mv_X1_refuse (Nat.le_of_ble_eq_true rfl) (Nat.le_of_ble_eq_true rfl) (Nat.le_of_ble_eq_true rfl) (Nat.le_of_ble_eq_true rfl) (kc_28 V _) rfl dX8_ask_65 (c_X1_refuse V _ _ _ h65) ?_
          refine x_goto C 68 104 dX8_ask_68 (by decide) ?_
          refine Y_sub [1, 3, 0] rfl ?_
          exact hJ104 _ _ _
      · refine x_iconst C 23 dX8_ask_23 ki_m1 ?_
        exact x_iret2 C R 24 dX8_ask_24
def M_X8_got (σ : Wd) (v1 : Int32) : Option Int32 :=
  bnd1 (M_X8_isSession v1) fun r1 => if r1 = 0 then (some (0 : Int32)) else (bnd1 (M_X1_sessionNumber σ (52 : Int32) v1) fun r14 => some r14)
set_option maxRecDepth 100000 in
set_option maxHeartbeats 4000000 in
theorem c_X8_got (V : Ct_V) (l : Launch) (σ : Wd) (v1 : Int32) {r : Int32} (h : M_X8_got σ v1 = some r) : Ct l (Zc V) yX8_got cX8_got 2 (some .int) 1 22 [.ref (zA (Zc V) 0), .int v1] σ (some (.int r)) σ := by
  refine Ct_intro (own := RX8) zc_ok (by decide +kernel) rfl (Nat.le_of_ble_eq_true rfl) [(0, .ref (zA (Zc V) 0)), (1, .int v1)] rfl (fun K C R hKl hnL => ?_)
  have hN := nl_of hnL
  subst hKl
  refine Y_end h ?_
  unfold M_X8_got
  refine x_iload_n C 0 1 dX8_got_0 rfl ?_
  refine Y_bnd1 (fun r1 h1 => ?_)
  refine x_callSi C 1 [.int v1] [] rfl tw_634 ms_X8_isSession (Nat.le_of_ble_eq_true rfl) (Nat.le_of_ble_eq_true rfl) (Nat.le_of_ble_eq_true rfl) dX8_got_1 (c_X8_isSession V _ _ _ h1) ?_
  refine x_if_eq C 4 20 dX8_got_4 (by decide) (fun _ => ?_) (fun _ => ?_)
  · refine x_iconst C 20 dX8_got_20 ki_0 ?_
    exact x_iret1 C R 21 dX8_got_21
  · refine x_aload_n C 7 0 dX8_got_7 rfl ?_
    refine fgc_X8_42 C 8 dX8_got_8 ?_
    refine x_bipush C 11 dX8_got_11 kb_52 ?_
    refine x_iload_n C 13 1 dX8_got_13 rfl ?_
    refine Y_bnd1 (fun r14 h14 => ?_)
    refine x_callVi C 14 [.int (52 : Int32), .int v1] [] rfl tw_792 mv_X1_sessionNumber (Nat.le_of_ble_eq_true rfl) (Nat.le_of_ble_eq_true rfl) (Nat.le_of_ble_eq_true rfl) (Nat.le_of_ble_eq_true rfl) (kc_28 V _) rfl dX8_got_14 (c_X1_sessionNumber V _ _ _ _ h14) ?_
    refine x_goto C 17 21 dX8_got_17 (by decide) ?_
    exact x_iret1 C R 21 dX8_got_21
def M_X8_promise (σ : Wd) (v1 : Int32) (v2 : Int32) : Option (Int32 × Wd) :=
  bnd1 (M_X8_isSession v1) fun r1 => if r1 = 0 then (some ((0 : Int32), σ)) else (if v2 < 0 then (some ((0 : Int32), σ)) else (if v2 ≤ (15 : Int32) then (bnd1 (M_X1_sessionNumber σ (44 : Int32) v1) fun r26 => if r26 ≠ v2 then (bnd1 (M_X2_keep σ) fun s_43 => bnd1 (M_X1_setPromises s_43 v1 v2) fun s_52 => some ((1 : Int32), s_52)) else (some ((0 : Int32), σ))) else (some ((0 : Int32), σ))))
set_option maxRecDepth 100000 in
set_option maxHeartbeats 4000000 in
theorem c_X8_promise (V : Ct_V) (l : Launch) (σ : Wd) (v1 : Int32) (v2 : Int32) {r : Int32} {σ2 : Wd} (h : M_X8_promise σ v1 v2 = some (r, σ2)) : Ct l (Zc V) yX8_promise cX8_promise 3 (some .boolean) 2 101 [.ref (zA (Zc V) 0), .int v1, .int v2] σ (some (.int r)) σ2 := by
  refine Ct_intro (own := RX8) zc_ok (by decide +kernel) rfl (Nat.le_of_ble_eq_true rfl) [(0, .ref (zA (Zc V) 0)), (1, .int v1), (2, .int v2)] rfl (fun K C R hKl hnL => ?_)
  have hN := nl_of hnL
  subst hKl
  refine Y_end h ?_
  unfold M_X8_promise
  refine x_iload_n C 0 1 dX8_promise_0 rfl ?_
  refine Y_bnd1 (fun r1 h1 => ?_)
  refine x_callSi C 1 [.int v1] [] rfl tw_634 ms_X8_isSession (Nat.le_of_ble_eq_true rfl) (Nat.le_of_ble_eq_true rfl) (Nat.le_of_ble_eq_true rfl) dX8_promise_1 (c_X8_isSession V _ _ _ h1) ?_
  refine x_if_eq C 4 17 dX8_promise_4 (by decide) (fun _ => ?_) (fun _ => ?_)
  · refine x_iconst C 17 dX8_promise_17 ki_0 ?_
    exact x_zret2 C R 18 (zb_nar (r := (0 : Int32)) (Or.inl rfl)) dX8_promise_18
  · refine x_iload_n C 7 2 dX8_promise_7 rfl ?_
    refine x_if_lt C 8 17 dX8_promise_8 (by decide) (fun _ => ?_) (fun _ => ?_)
    · refine x_iconst C 17 dX8_promise_17 ki_0 ?_
      exact x_zret2 C R 18 (zb_nar (r := (0 : Int32)) (Or.inl rfl)) dX8_promise_18
    · refine x_iload_n C 11 2 dX8_promise_11 rfl ?_
      refine x_bipush C 12 dX8_promise_12 kb_15 ?_
      refine x_icmp_le C 14 19 dX8_promise_14 (by decide) (fun _ => ?_) (fun _ => ?_)
      · refine x_aload_n C 19 0 dX8_promise_19 rfl ?_
        refine fgc_X8_42 C 20 dX8_promise_20 ?_
        refine x_bipush C 23 dX8_promise_23 kb_44 ?_
        refine x_iload_n C 25 1 dX8_promise_25 rfl ?_
        refine Y_bnd1 (fun r26 h26 => ?_)
        refine x_callVi C 26 [.int (44 : Int32), .int v1] [] rfl tw_792 mv_X1_sessionNumber (Nat.le_of_ble_eq_true rfl) (Nat.le_of_ble_eq_true rfl) (Nat.le_of_ble_eq_true rfl) (Nat.le_of_ble_eq_true rfl) (kc_28 V _) rfl dX8_promise_26 (c_X1_sessionNumber V _ _ _ _ h26) ?_
        refine x_iload_n C 29 2 dX8_promise_29 rfl ?_
        refine x_icmp_ne C 30 35 dX8_promise_30 (by decide) (fun _ => ?_) (fun _ => ?_)
        · refine x_aload_n C 35 0 dX8_promise_35 rfl ?_
          refine fgc_X8_49 C 36 dX8_promise_36 ?_
          refine x_aload_n C 39 0 dX8_promise_39 rfl ?_
          refine fgc_X8_42 C 40 dX8_promise_40 ?_
          refine Y_bnd1 (fun s_43 h43 => ?_)
          refine x_callVv C 43 [.ref (zA (Zc V) 28)] [] rfl tw_641 mv_X2_keep (Nat.le_of_ble_eq_true rfl) (Nat.le_of_ble_eq_true rfl) (Nat.le_of_ble_eq_true rfl) (Nat.le_of_ble_eq_true rfl) (kc_66 V _) rfl dX8_promise_43 (c_X2_keep V _ _  h43) ?_
          refine x_aload_n C 46 0 dX8_promise_46 rfl ?_
          refine fgc_X8_42 C 47 dX8_promise_47 ?_
          refine x_iload_n C 50 1 dX8_promise_50 rfl ?_
          refine x_iload_n C 51 2 dX8_promise_51 rfl ?_
          refine Y_bnd1 (fun s_52 h52 => ?_)
          refine x_callVv C 52 [.int v1, .int v2] [] rfl tw_800 mv_X1_setPromises (Nat.le_of_ble_eq_true rfl) (Nat.le_of_ble_eq_true rfl) (Nat.le_of_ble_eq_true rfl) (Nat.le_of_ble_eq_true rfl) (kc_28 V _) rfl dX8_promise_52 (c_X1_setPromises V _ _ _ _ h52) ?_
          refine x_iconst C 55 dX8_promise_55 ki_1 ?_
          exact x_zret2 C R 56 (zb_nar (r := (1 : Int32)) (Or.inr rfl)) dX8_promise_56
        · refine x_iconst C 33 dX8_promise_33 ki_0 ?_
          exact x_zret2 C R 34 (zb_nar (r := (0 : Int32)) (Or.inl rfl)) dX8_promise_34
      · refine x_iconst C 17 dX8_promise_17 ki_0 ?_
        exact x_zret2 C R 18 (zb_nar (r := (0 : Int32)) (Or.inl rfl)) dX8_promise_18
def M_X8_areCopies (σ : Wd) (v1 : Int32) (v2 : Int32) : Option Int32 :=
  bnd1 (M_X8_isCopy σ v1) fun r2 => if r2 = 0 then (some (0 : Int32)) else (bnd1 (M_X8_isCopy σ v2) fun r10 => if r10 = 0 then (some (0 : Int32)) else (some (1 : Int32)))
set_option maxRecDepth 100000 in
set_option maxHeartbeats 4000000 in
theorem c_X8_areCopies (V : Ct_V) (l : Launch) (σ : Wd) (v1 : Int32) (v2 : Int32) {r : Int32} (h : M_X8_areCopies σ v1 v2 = some r) : Ct l (Zc V) yX8_areCopies cX8_areCopies 3 (some .boolean) 1 21 [.ref (zA (Zc V) 0), .int v1, .int v2] σ (some (.int r)) σ := by
  refine Ct_intro (own := RX8) zc_ok (by decide +kernel) rfl (Nat.le_of_ble_eq_true rfl) [(0, .ref (zA (Zc V) 0)), (1, .int v1), (2, .int v2)] rfl (fun K C R hKl hnL => ?_)
  have hN := nl_of hnL
  subst hKl
  refine Y_end h ?_
  unfold M_X8_areCopies
  refine x_aload_n C 0 0 dX8_areCopies_0 rfl ?_
  refine x_iload_n C 1 1 dX8_areCopies_1 rfl ?_
  refine Y_bnd1 (fun r2 h2 => ?_)
  refine x_callVi C 2 [.int v1] [] rfl tw_637 mv_X8_isCopy (Nat.le_of_ble_eq_true rfl) (Nat.le_of_ble_eq_true rfl) (Nat.le_of_ble_eq_true rfl) (Nat.le_of_ble_eq_true rfl) (kc_0 V _) rfl dX8_areCopies_2 (c_X8_isCopy V _ _ _ h2) ?_
  refine x_if_eq C 5 20 dX8_areCopies_5 (by decide) (fun _ => ?_) (fun _ => ?_)
  · refine x_iconst C 20 dX8_areCopies_20 ki_0 ?_
    exact x_zret1 C R 21 (zb_nar (r := (0 : Int32)) (Or.inl rfl)) dX8_areCopies_21
  · refine x_aload_n C 8 0 dX8_areCopies_8 rfl ?_
    refine x_iload_n C 9 2 dX8_areCopies_9 rfl ?_
    refine Y_bnd1 (fun r10 h10 => ?_)
    refine x_callVi C 10 [.int v2] [] rfl tw_637 mv_X8_isCopy (Nat.le_of_ble_eq_true rfl) (Nat.le_of_ble_eq_true rfl) (Nat.le_of_ble_eq_true rfl) (Nat.le_of_ble_eq_true rfl) (kc_0 V _) rfl dX8_areCopies_10 (c_X8_isCopy V _ _ _ h10) ?_
    refine x_if_eq C 13 20 dX8_areCopies_13 (by decide) (fun _ => ?_) (fun _ => ?_)
    · refine x_iconst C 20 dX8_areCopies_20 ki_0 ?_
      exact x_zret1 C R 21 (zb_nar (r := (0 : Int32)) (Or.inl rfl)) dX8_areCopies_21
    · refine x_iconst C 16 dX8_areCopies_16 ki_1 ?_
      refine x_goto C 17 21 dX8_areCopies_17 (by decide) ?_
      exact x_zret1 C R 21 (zb_nar (r := (1 : Int32)) (Or.inr rfl)) dX8_areCopies_21
def M_X8_areTwoCopies (σ : Wd) (v1 : Int32) (v2 : Int32) : Option Int32 :=
  bnd1 (M_X8_areCopies σ v1 v2) fun r3 => if r3 = 0 then (some (0 : Int32)) else (if v1 = v2 then (some (0 : Int32)) else (some (1 : Int32)))
set_option maxRecDepth 100000 in
set_option maxHeartbeats 4000000 in
theorem c_X8_areTwoCopies (V : Ct_V) (l : Launch) (σ : Wd) (v1 : Int32) (v2 : Int32) {r : Int32} (h : M_X8_areTwoCopies σ v1 v2 = some r) : Ct l (Zc V) yX8_areTwoCopies cX8_areTwoCopies 3 (some .boolean) 2 43 [.ref (zA (Zc V) 0), .int v1, .int v2] σ (some (.int r)) σ := by
  refine Ct_intro (own := RX8) zc_ok (by decide +kernel) rfl (Nat.le_of_ble_eq_true rfl) [(0, .ref (zA (Zc V) 0)), (1, .int v1), (2, .int v2)] rfl (fun K C R hKl hnL => ?_)
  have hN := nl_of hnL
  subst hKl
  refine Y_end h ?_
  unfold M_X8_areTwoCopies
  refine x_aload_n C 0 0 dX8_areTwoCopies_0 rfl ?_
  refine x_iload_n C 1 1 dX8_areTwoCopies_1 rfl ?_
  refine x_iload_n C 2 2 dX8_areTwoCopies_2 rfl ?_
  refine Y_bnd1 (fun r3 h3 => ?_)
  refine x_callVi C 3 [.int v1, .int v2] [] rfl tw_812 mv_X8_areCopies (Nat.le_of_ble_eq_true rfl) (Nat.le_of_ble_eq_true rfl) (Nat.le_of_ble_eq_true rfl) (Nat.le_of_ble_eq_true rfl) (kc_0 V _) rfl dX8_areTwoCopies_3 (c_X8_areCopies V _ _ _ _ h3) ?_
  refine x_if_eq C 6 18 dX8_areTwoCopies_6 (by decide) (fun _ => ?_) (fun _ => ?_)
  · refine x_iconst C 18 dX8_areTwoCopies_18 ki_0 ?_
    exact x_zret1 C R 19 (zb_nar (r := (0 : Int32)) (Or.inl rfl)) dX8_areTwoCopies_19
  · refine x_iload_n C 9 1 dX8_areTwoCopies_9 rfl ?_
    refine x_iload_n C 10 2 dX8_areTwoCopies_10 rfl ?_
    refine x_icmp_eq C 11 18 dX8_areTwoCopies_11 (by decide) (fun _ => ?_) (fun _ => ?_)
    · refine x_iconst C 18 dX8_areTwoCopies_18 ki_0 ?_
      exact x_zret1 C R 19 (zb_nar (r := (0 : Int32)) (Or.inl rfl)) dX8_areTwoCopies_19
    · refine x_iconst C 14 dX8_areTwoCopies_14 ki_1 ?_
      refine x_goto C 15 19 dX8_areTwoCopies_15 (by decide) ?_
      exact x_zret1 C R 19 (zb_nar (r := (1 : Int32)) (Or.inr rfl)) dX8_areTwoCopies_19
def M_X8_meet (σ : Wd) (v1 : Int32) (v2 : Int32) : Option (Int32 × Wd) :=
  bnd1 (M_X8_areTwoCopies σ v1 v2) fun r3 => if r3 ≠ 0 then (bnd1 (M_X2_keep σ) fun s_19 => bnd2 (M_X1_holdMeeting s_19 v1 v2) fun r28 s_28 => some (r28, s_28)) else (some ((-1 : Int32), σ))
set_option maxRecDepth 100000 in
set_option maxHeartbeats 4000000 in
theorem c_X8_meet (V : Ct_V) (l : Launch) (σ : Wd) (v1 : Int32) (v2 : Int32) {r : Int32} {σ2 : Wd} (h : M_X8_meet σ v1 v2 = some (r, σ2)) : Ct l (Zc V) yX8_meet cX8_meet 3 (some .int) 3 101 [.ref (zA (Zc V) 0), .int v1, .int v2] σ (some (.int r)) σ2 := by
  refine Ct_intro (own := RX8) zc_ok (by decide +kernel) rfl (Nat.le_of_ble_eq_true rfl) [(0, .ref (zA (Zc V) 0)), (1, .int v1), (2, .int v2)] rfl (fun K C R hKl hnL => ?_)
  have hN := nl_of hnL
  subst hKl
  refine Y_end h ?_
  unfold M_X8_meet
  refine x_aload_n C 0 0 dX8_meet_0 rfl ?_
  refine x_iload_n C 1 1 dX8_meet_1 rfl ?_
  refine x_iload_n C 2 2 dX8_meet_2 rfl ?_
  refine Y_bnd1 (fun r3 h3 => ?_)
  refine x_callVi C 3 [.int v1, .int v2] [] rfl tw_808 mv_X8_areTwoCopies (Nat.le_of_ble_eq_true rfl) (Nat.le_of_ble_eq_true rfl) (Nat.le_of_ble_eq_true rfl) (Nat.le_of_ble_eq_true rfl) (kc_0 V _) rfl dX8_meet_3 (c_X8_areTwoCopies V _ _ _ _ h3) ?_
  refine x_if_ne C 6 11 dX8_meet_6 (by decide) (fun _ => ?_) (fun _ => ?_)
  · refine x_aload_n C 11 0 dX8_meet_11 rfl ?_
    refine fgc_X8_49 C 12 dX8_meet_12 ?_
    refine x_aload_n C 15 0 dX8_meet_15 rfl ?_
    refine fgc_X8_42 C 16 dX8_meet_16 ?_
    refine Y_bnd1 (fun s_19 h19 => ?_)
    refine x_callVv C 19 [.ref (zA (Zc V) 28)] [] rfl tw_641 mv_X2_keep (Nat.le_of_ble_eq_true rfl) (Nat.le_of_ble_eq_true rfl) (Nat.le_of_ble_eq_true rfl) (Nat.le_of_ble_eq_true rfl) (kc_66 V _) rfl dX8_meet_19 (c_X2_keep V _ _  h19) ?_
    refine x_aload_n C 22 0 dX8_meet_22 rfl ?_
    refine fgc_X8_42 C 23 dX8_meet_23 ?_
    refine x_iload_n C 26 1 dX8_meet_26 rfl ?_
    refine x_iload_n C 27 2 dX8_meet_27 rfl ?_
    refine Y_bnd2 (fun r28 s_28 h28 => ?_)
    refine x_callVi C 28 [.int v1, .int v2] [] rfl tw_816 mv_X1_holdMeeting (Nat.le_of_ble_eq_true rfl) (Nat.le_of_ble_eq_true rfl) (Nat.le_of_ble_eq_true rfl) (Nat.le_of_ble_eq_true rfl) (kc_28 V _) rfl dX8_meet_28 (c_X1_holdMeeting V _ _ _ _ h28) ?_
    exact x_iret2 C R 31 dX8_meet_31
  · refine x_iconst C 9 dX8_meet_9 ki_m1 ?_
    exact x_iret2 C R 10 dX8_meet_10
def M_X8_lead (σ : Wd) (v1 : Int32) : Option (Int32 × Wd) :=
  bnd1 (M_X8_isCopy σ v1) fun r2 => if r2 = 0 then (some ((0 : Int32), σ)) else (bnd1 (M_X1_primary σ) fun r13 => if v1 = r13 then (some ((0 : Int32), σ)) else (bnd1 (M_X1_knownOf σ v1) fun r24 => bnd1 (M_X1_ordered σ) fun r31 => if r31 ≤ r24 then (bnd1 (M_X2_keep σ) fun s_47 => bnd1 (M_X1_openLog s_47 v1) fun s_55 => bnd1 (M_X1_setPrimary s_55 v1) fun s_63 => bnd1 (M_X1_closeLog s_63 v1) fun s_71 => some ((1 : Int32), s_71)) else (some ((0 : Int32), σ))))
set_option maxRecDepth 100000 in
set_option maxHeartbeats 4000000 in
theorem c_X8_lead (V : Ct_V) (l : Launch) (σ : Wd) (v1 : Int32) {r : Int32} {σ2 : Wd} (h : M_X8_lead σ v1 = some (r, σ2)) : Ct l (Zc V) yX8_lead cX8_lead 2 (some .boolean) 2 101 [.ref (zA (Zc V) 0), .int v1] σ (some (.int r)) σ2 := by
  refine Ct_intro (own := RX8) zc_ok (by decide +kernel) rfl (Nat.le_of_ble_eq_true rfl) [(0, .ref (zA (Zc V) 0)), (1, .int v1)] rfl (fun K C R hKl hnL => ?_)
  have hN := nl_of hnL
  subst hKl
  refine Y_end h ?_
  unfold M_X8_lead
  refine x_aload_n C 0 0 dX8_lead_0 rfl ?_
  refine x_iload_n C 1 1 dX8_lead_1 rfl ?_
  refine Y_bnd1 (fun r2 h2 => ?_)
  refine x_callVi C 2 [.int v1] [] rfl tw_637 mv_X8_isCopy (Nat.le_of_ble_eq_true rfl) (Nat.le_of_ble_eq_true rfl) (Nat.le_of_ble_eq_true rfl) (Nat.le_of_ble_eq_true rfl) (kc_0 V _) rfl dX8_lead_2 (c_X8_isCopy V _ _ _ h2) ?_
  refine x_if_eq C 5 37 dX8_lead_5 (by decide) (fun _ => ?_) (fun _ => ?_)
  · refine x_iconst C 37 dX8_lead_37 ki_0 ?_
    exact x_zret2 C R 38 (zb_nar (r := (0 : Int32)) (Or.inl rfl)) dX8_lead_38
  · refine x_iload_n C 8 1 dX8_lead_8 rfl ?_
    refine x_aload_n C 9 0 dX8_lead_9 rfl ?_
    refine fgc_X8_42 C 10 dX8_lead_10 ?_
    refine Y_bnd1 (fun r13 h13 => ?_)
    refine x_callVi C 13 [] [.int v1] rfl tw_829 mv_X1_primary (Nat.le_of_ble_eq_true rfl) (Nat.le_of_ble_eq_true rfl) (Nat.le_of_ble_eq_true rfl) (Nat.le_of_ble_eq_true rfl) (kc_28 V _) rfl dX8_lead_13 (c_X1_primary V _ _  h13) ?_
    refine x_icmp_eq C 16 37 dX8_lead_16 (by decide) (fun _ => ?_) (fun _ => ?_)
    · refine x_iconst C 37 dX8_lead_37 ki_0 ?_
      exact x_zret2 C R 38 (zb_nar (r := (0 : Int32)) (Or.inl rfl)) dX8_lead_38
    · refine x_aload_n C 19 0 dX8_lead_19 rfl ?_
      refine fgc_X8_42 C 20 dX8_lead_20 ?_
      refine x_iload_n C 23 1 dX8_lead_23 rfl ?_
      refine Y_bnd1 (fun r24 h24 => ?_)
      refine x_callVi C 24 [.int v1] [] rfl tw_830 mv_X1_knownOf (Nat.le_of_ble_eq_true rfl) (Nat.le_of_ble_eq_true rfl) (Nat.le_of_ble_eq_true rfl) (Nat.le_of_ble_eq_true rfl) (kc_28 V _) rfl dX8_lead_24 (c_X1_knownOf V _ _ _ h24) ?_
      refine x_aload_n C 27 0 dX8_lead_27 rfl ?_
      refine fgc_X8_42 C 28 dX8_lead_28 ?_
      refine Y_bnd1 (fun r31 h31 => ?_)
      refine x_callVi C 31 [] [.int r24] rfl tw_831 mv_X1_ordered (Nat.le_of_ble_eq_true rfl) (Nat.le_of_ble_eq_true rfl) (Nat.le_of_ble_eq_true rfl) (Nat.le_of_ble_eq_true rfl) (kc_28 V _) rfl dX8_lead_31 (c_X1_ordered V _ _  h31) ?_
      refine x_icmp_ge C 34 39 dX8_lead_34 (by decide) (fun _ => ?_) (fun _ => ?_)
      · refine x_aload_n C 39 0 dX8_lead_39 rfl ?_
        refine fgc_X8_49 C 40 dX8_lead_40 ?_
        refine x_aload_n C 43 0 dX8_lead_43 rfl ?_
        refine fgc_X8_42 C 44 dX8_lead_44 ?_
        refine Y_bnd1 (fun s_47 h47 => ?_)
        refine x_callVv C 47 [.ref (zA (Zc V) 28)] [] rfl tw_641 mv_X2_keep (Nat.le_of_ble_eq_true rfl) (Nat.le_of_ble_eq_true rfl) (Nat.le_of_ble_eq_true rfl) (Nat.le_of_ble_eq_true rfl) (kc_66 V _) rfl dX8_lead_47 (c_X2_keep V _ _  h47) ?_
        refine x_aload_n C 50 0 dX8_lead_50 rfl ?_
        refine fgc_X8_42 C 51 dX8_lead_51 ?_
        refine x_iload_n C 54 1 dX8_lead_54 rfl ?_
        refine Y_bnd1 (fun s_55 h55 => ?_)
        refine x_callVv C 55 [.int v1] [] rfl tw_649 mv_X1_openLog (Nat.le_of_ble_eq_true rfl) (Nat.le_of_ble_eq_true rfl) (Nat.le_of_ble_eq_true rfl) (Nat.le_of_ble_eq_true rfl) (kc_28 V _) rfl dX8_lead_55 (c_X1_openLog V _ _ _ h55) ?_
        refine x_aload_n C 58 0 dX8_lead_58 rfl ?_
        refine fgc_X8_42 C 59 dX8_lead_59 ?_
        refine x_iload_n C 62 1 dX8_lead_62 rfl ?_
        refine Y_bnd1 (fun s_63 h63 => ?_)
        refine x_callVv C 63 [.int v1] [] rfl tw_832 mv_X1_setPrimary (Nat.le_of_ble_eq_true rfl) (Nat.le_of_ble_eq_true rfl) (Nat.le_of_ble_eq_true rfl) (Nat.le_of_ble_eq_true rfl) (kc_28 V _) rfl dX8_lead_63 (c_X1_setPrimary V _ _ _ h63) ?_
        refine x_aload_n C 66 0 dX8_lead_66 rfl ?_
        refine fgc_X8_42 C 67 dX8_lead_67 ?_
        refine x_iload_n C 70 1 dX8_lead_70 rfl ?_
        refine Y_bnd1 (fun s_71 h71 => ?_)
        refine x_callVv C 71 [.int v1] [] rfl tw_724 mv_X1_closeLog (Nat.le_of_ble_eq_true rfl) (Nat.le_of_ble_eq_true rfl) (Nat.le_of_ble_eq_true rfl) (Nat.le_of_ble_eq_true rfl) (kc_28 V _) rfl dX8_lead_71 (c_X1_closeLog V _ _ _ h71) ?_
        refine x_iconst C 74 dX8_lead_74 ki_1 ?_
        exact x_zret2 C R 75 (zb_nar (r := (1 : Int32)) (Or.inr rfl)) dX8_lead_75
      · refine x_iconst C 37 dX8_lead_37 ki_0 ?_
        exact x_zret2 C R 38 (zb_nar (r := (0 : Int32)) (Or.inl rfl)) dX8_lead_38
def M_X8_chance_L29 (v1 : Int32) (v2 : Int32) (σ : Wd) : Option ((Int32 × Wd) ⊕ (Wd)) :=
  if v1 ≤ v2 then (some (.inr σ)) else (bnd1 (M_X1_chances σ) fun r38 => bnd1 (M_X1_addChance σ) fun s_46 => chk (famT (gR s_46 0 4)) (if (gI s_46 (gR s_46 0 4) 0) ≤ (1 : Int32) then (lt (v2 + (1 : Int32)) fun v2_110 => some (.inl (v2_110, s_46))) else (chk (famT (gR s_46 0 4)) (chk (famT (gR s_46 0 4)) (bnd1 (M_X5_giver (gI s_46 (gR s_46 0 4) 0) (gI s_46 (gR s_46 0 4) 2) r38) fun r75 => chk (famT (gR s_46 0 4)) (chk (famT (gR s_46 0 4)) (bnd1 (M_X5_taker r75 (gI s_46 (gR s_46 0 4) 0) (gI s_46 (gR s_46 0 4) 2) r38) fun r103 => bnd2 (M_X1_holdMeeting s_46 r75 r103) fun r106 s_106 => lt (v2 + (1 : Int32)) fun v2_110 => some (.inl (v2_110, s_106)))))))))
def M_X8_chance_J27 (σ : Wd) (v1 : Int32) : Option (Int32 × Wd) :=
  bnd1 (iter (fun s : Int32 × Wd => M_X8_chance_L29 v1 s.1 s.2) FU ((0 : Int32), σ)) (un1 fun sx_29 => (bnd1 (M_X1_chances sx_29) fun r120 => some (r120, sx_29)))
def M_X8_chance (σ : Wd) (v1 : Int32) : Option (Int32 × Wd) :=
  if v1 < 0 then (some ((-1 : Int32), σ)) else (if v1 ≤ (60 : Int32) then (if v1 ≤ 0 then (M_X8_chance_J27 σ v1) else (bnd1 (M_X2_keep σ) fun s_24 => M_X8_chance_J27 s_24 v1)) else (some ((-1 : Int32), σ)))
set_option maxRecDepth 100000 in
set_option maxHeartbeats 4000000 in
theorem c_X8_chance (V : Ct_V) (l : Launch) (σ : Wd) (v1 : Int32) {r : Int32} {σ2 : Wd} (h : M_X8_chance σ v1 = some (r, σ2)) : Ct l (Zc V) yX8_chance cX8_chance 5 (some .int) 3 101 [.ref (zA (Zc V) 0), .int v1] σ (some (.int r)) σ2 := by
  refine Ct_intro (own := RX8) zc_ok (by decide +kernel) rfl (Nat.le_of_ble_eq_true rfl) [(0, .ref (zA (Zc V) 0)), (1, .int v1)] rfl (fun K C R hKl hnL => ?_)
  have hN := nl_of hnL
  subst hKl
  refine Y_end h ?_
  unfold M_X8_chance
  refine x_iload_n C 0 1 dX8_chance_0 rfl ?_
  refine x_if_lt C 1 10 dX8_chance_1 (by decide) (fun _ => ?_) (fun _ => ?_)
  · refine x_iconst C 10 dX8_chance_10 ki_m1 ?_
    exact x_iret2 C R 11 dX8_chance_11
  · refine x_iload_n C 4 1 dX8_chance_4 rfl ?_
    refine x_bipush C 5 dX8_chance_5 kb_60 ?_
    refine x_icmp_le C 7 12 dX8_chance_7 (by decide) (fun _ => ?_) (fun _ => ?_)
    · refine x_iload_n C 12 1 dX8_chance_12 rfl ?_
      have hJ27 : ∀ (σ_27 : Wd) (v1_27 : Int32), Y K (Zc V) (M_X8_chance_J27 σ_27 v1_27) (fun q => q = (r, σ2)) σ_27 27 [(0, .ref (zA (Zc V) 0)), (1, .int v1_27)] [] := by
        intro σ_27 v1_27
        unfold M_X8_chance_J27
        refine x_iconst C 27 dX8_chance_27 ki_0 ?_
        refine x_istore_n C 28 (L' := [(2, .int (0 : Int32)), (0, .ref (zA (Zc V) 0)), (1, .int v1_27)]) dX8_chance_28 rfl (hN _ (Nat.le_of_ble_eq_true rfl)) rfl ?_
        refine Y_sub [1, 2, 0] rfl ?_
        refine x_loop 29 (fun s : Int32 × Wd => s.2) (fun s : Int32 × Wd => [(0, .ref (zA (Zc V) 0)), (1, .int v1_27), (2, .int s.1)]) (fun E29 hb29 hx29 s => ?_) FU ((0 : Int32), σ_27)
        obtain ⟨v2_29, s_29⟩ := s
        show Y K (Zc V) (M_X8_chance_L29 v1_27 v2_29 s_29) E29 s_29 29 [(0, .ref (zA (Zc V) 0)), (1, .int v1_27), (2, .int v2_29)] []
        unfold M_X8_chance_L29
        refine x_iload_n C 29 2 dX8_chance_29 rfl ?_
        refine x_iload_n C 30 1 dX8_chance_30 rfl ?_
        refine x_icmp_ge C 31 116 dX8_chance_31 (by decide) (fun _ => ?_) (fun _ => ?_)
        · refine x_ex1 hx29 s_29 ?_
          refine x_aload_n C 116 0 dX8_chance_116 rfl ?_
          refine fgc_X8_42 C 117 dX8_chance_117 ?_
          refine Y_bnd1 (fun r120 h120 => ?_)
          refine x_callVi C 120 [] [] rfl tw_840 mv_X1_chances (Nat.le_of_ble_eq_true rfl) (Nat.le_of_ble_eq_true rfl) (Nat.le_of_ble_eq_true rfl) (Nat.le_of_ble_eq_true rfl) (kc_28 V _) rfl dX8_chance_120 (c_X1_chances V _ _  h120) ?_
          exact x_iret2 C R 123 dX8_chance_123
        · refine x_aload_n C 34 0 dX8_chance_34 rfl ?_
          refine fgc_X8_42 C 35 dX8_chance_35 ?_
          refine Y_bnd1 (fun r38 h38 => ?_)
          refine x_callVi C 38 [] [] rfl tw_840 mv_X1_chances (Nat.le_of_ble_eq_true rfl) (Nat.le_of_ble_eq_true rfl) (Nat.le_of_ble_eq_true rfl) (Nat.le_of_ble_eq_true rfl) (kc_28 V _) rfl dX8_chance_38 (c_X1_chances V _ _  h38) ?_
          refine x_istore_n C 41 (L' := [(3, .int r38), (0, .ref (zA (Zc V) 0)), (1, .int v1_27), (2, .int v2_29)]) dX8_chance_41 rfl (hN _ (Nat.le_of_ble_eq_true rfl)) rfl ?_
          refine x_aload_n C 42 1 dX8_chance_42 rfl ?_
          refine fgc_X8_42 C 43 dX8_chance_43 ?_
          refine Y_bnd1 (fun s_46 h46 => ?_)
          refine x_callVv C 46 [] [] rfl tw_844 mv_X1_addChance (Nat.le_of_ble_eq_true rfl) (Nat.le_of_ble_eq_true rfl) (Nat.le_of_ble_eq_true rfl) (Nat.le_of_ble_eq_true rfl) (kc_28 V _) rfl dX8_chance_46 (c_X1_addChance V _ _  h46) ?_
          refine x_aload_n C 49 1 dX8_chance_49 rfl ?_
          refine fgc_X8_23 C 50 dX8_chance_50 ?_
          refine Y_chk (fun hf50 => ?_)
          refine fgf_X8_78 (hf50) C 53 dX8_chance_53 ?_
          refine x_iconst C 56 dX8_chance_56 ki_1 ?_
          refine x_icmp_le C 57 110 dX8_chance_57 (by decide) (fun _ => ?_) (fun _ => ?_)
          · refine x_iinct C 110 3 (1 : Int32) (fun v2_110 => [(2, .int v2_110), (3, .int r38), (0, .ref (zA (Zc V) 0)), (1, .int v1_27)]) dX8_chance_110 rfl ki_1 (hN _ (Nat.le_of_ble_eq_true rfl)) (fun _ => rfl) (fun v2_110 => ?_)
            refine x_goto C 113 29 dX8_chance_113 (by decide) ?_
            refine Y_sub [2, 3, 0] rfl ?_
            exact x_back (v2_110, s_46) (hb29 (v2_110, s_46))
          · refine x_aload_n C 60 1 dX8_chance_60 rfl ?_
            refine fgc_X8_23 C 61 dX8_chance_61 ?_
            refine Y_chk (fun hf61 => ?_)
            refine fgf_X8_78 (hf61) C 64 dX8_chance_64 ?_
            refine x_aload_n C 67 1 dX8_chance_67 rfl ?_
            refine fgc_X8_23 C 68 dX8_chance_68 ?_
            refine Y_chk (fun hf68 => ?_)
            refine fgf_X8_185 (hf68) C 71 dX8_chance_71 ?_
            refine x_iload_n C 74 0 dX8_chance_74 rfl ?_
            refine Y_bnd1 (fun r75 h75 => ?_)
            refine x_callSi C 75 [.int (gI s_46 (gR s_46 0 4) 0), .int (gI s_46 (gR s_46 0 4) 2), .int r38] [] rfl tw_848 ms_X5_giver (Nat.le_of_ble_eq_true rfl) (Nat.le_of_ble_eq_true rfl) (Nat.le_of_ble_eq_true rfl) dX8_chance_75 (c_X5_giver V _ _ _ _ _ h75) ?_
            refine x_istore C 78 (L' := [(4, .int r75), (3, .int r38), (0, .ref (zA (Zc V) 0)), (1, .int v1_27), (2, .int v2_29)]) dX8_chance_78 (hN _ (Nat.le_of_ble_eq_true rfl)) rfl ?_
            refine x_aload_n C 80 2 dX8_chance_80 rfl ?_
            refine fgc_X8_42 C 81 dX8_chance_81 ?_
            refine x_iload C 84 0 dX8_chance_84 rfl ?_
            refine x_iload C 86 0 dX8_chance_86 rfl ?_
            refine x_aload_n C 88 2 dX8_chance_88 rfl ?_
            refine fgc_X8_23 C 89 dX8_chance_89 ?_
            refine Y_chk (fun hf89 => ?_)
            refine fgf_X8_78 (hf89) C 92 dX8_chance_92 ?_
            refine x_aload_n C 95 2 dX8_chance_95 rfl ?_
            refine fgc_X8_23 C 96 dX8_chance_96 ?_
            refine Y_chk (fun hf96 => ?_)
            refine fgf_X8_185 (hf96) C 99 dX8_chance_99 ?_
            refine x_iload_n C 102 1 dX8_chance_102 rfl ?_
            refine Y_bnd1 (fun r103 h103 => ?_)
            refine x_callSi C 103 [.int r75, .int (gI s_46 (gR s_46 0 4) 0), .int (gI s_46 (gR s_46 0 4) 2), .int r38] [.int r75, .ref (zA (Zc V) 28)] rfl tw_858 ms_X5_taker (Nat.le_of_ble_eq_true rfl) (Nat.le_of_ble_eq_true rfl) (Nat.le_of_ble_eq_true rfl) dX8_chance_103 (c_X5_taker V _ _ _ _ _ _ h103) ?_
            refine Y_bnd2 (fun r106 s_106 h106 => ?_)
            refine x_callVi C 106 [.int r75, .int r103] [] rfl tw_816 mv_X1_holdMeeting (Nat.le_of_ble_eq_true rfl) (Nat.le_of_ble_eq_true rfl) (Nat.le_of_ble_eq_true rfl) (Nat.le_of_ble_eq_true rfl) (kc_28 V _) rfl dX8_chance_106 (c_X1_holdMeeting V _ _ _ _ h106) ?_
            refine x_pop C 109 dX8_chance_109 rfl ?_
            refine x_iinct C 110 4 (1 : Int32) (fun v2_110 => [(2, .int v2_110), (4, .int r75), (3, .int r38), (0, .ref (zA (Zc V) 0)), (1, .int v1_27)]) dX8_chance_110 rfl ki_1 (hN _ (Nat.le_of_ble_eq_true rfl)) (fun _ => rfl) (fun v2_110 => ?_)
            refine x_goto C 113 29 dX8_chance_113 (by decide) ?_
            refine Y_sub [3, 4, 0] rfl ?_
            exact x_back (v2_110, s_106) (hb29 (v2_110, s_106))
      refine x_if_le C 13 27 dX8_chance_13 (by decide) (fun _ => ?_) (fun _ => ?_)
      · exact hJ27 _ _
      · refine x_aload_n C 16 0 dX8_chance_16 rfl ?_
        refine fgc_X8_49 C 17 dX8_chance_17 ?_
        refine x_aload_n C 20 0 dX8_chance_20 rfl ?_
        refine fgc_X8_42 C 21 dX8_chance_21 ?_
        refine Y_bnd1 (fun s_24 h24 => ?_)
        refine x_callVv C 24 [.ref (zA (Zc V) 28)] [] rfl tw_641 mv_X2_keep (Nat.le_of_ble_eq_true rfl) (Nat.le_of_ble_eq_true rfl) (Nat.le_of_ble_eq_true rfl) (Nat.le_of_ble_eq_true rfl) (kc_66 V _) rfl dX8_chance_24 (c_X2_keep V _ _  h24) ?_
        exact hJ27 _ _
    · refine x_iconst C 10 dX8_chance_10 ki_m1 ?_
      exact x_iret2 C R 11 dX8_chance_11
def M_X8_undo (σ : Wd) : Option (Int32 × Wd) :=
  bnd2 (M_X2_bringBack σ) fun r8 s_8 => chk (zb r8) (some (r8, s_8))
set_option maxRecDepth 100000 in
set_option maxHeartbeats 4000000 in
theorem c_X8_undo (V : Ct_V) (l : Launch) (σ : Wd) {r : Int32} {σ2 : Wd} (h : M_X8_undo σ = some (r, σ2)) : Ct l (Zc V) yX8_undo cX8_undo 1 (some .boolean) 2 101 [.ref (zA (Zc V) 0)] σ (some (.int r)) σ2 := by
  refine Ct_intro (own := RX8) zc_ok (by decide +kernel) rfl (Nat.le_of_ble_eq_true rfl) [(0, .ref (zA (Zc V) 0))] rfl (fun K C R hKl hnL => ?_)
  have hN := nl_of hnL
  subst hKl
  refine Y_end h ?_
  unfold M_X8_undo
  refine x_aload_n C 0 0 dX8_undo_0 rfl ?_
  refine fgc_X8_49 C 1 dX8_undo_1 ?_
  refine x_aload_n C 4 0 dX8_undo_4 rfl ?_
  refine fgc_X8_42 C 5 dX8_undo_5 ?_
  refine Y_bnd2 (fun r8 s_8 h8 => ?_)
  refine x_callVi C 8 [.ref (zA (Zc V) 28)] [] rfl tw_865 mv_X2_bringBack (Nat.le_of_ble_eq_true rfl) (Nat.le_of_ble_eq_true rfl) (Nat.le_of_ble_eq_true rfl) (Nat.le_of_ble_eq_true rfl) (kc_66 V _) rfl dX8_undo_8 (c_X2_bringBack V _ _  h8) ?_
  refine Y_chk (fun hzb => ?_)
  exact x_zret2 C R 11 (hz01 := zb_nar hzb) dX8_undo_11
