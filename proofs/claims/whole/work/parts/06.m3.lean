/-! the model's methods: programs and contracts -/
def M_X9_makes_J143 (σ : Wd) (v2 : Int32) : Option Wd :=
  chk (ib (2 : Int32) 770) (if v2 ≠ (gI σ 26 (ix (2 : Int32))) then (some σ) else (bnd1 (M_X9_gives σ v2) fun s_155 => some s_155))
def M_X9_makes (σ : Wd) (v1 : Int32) (v2 : Int32) (v3 : Int32) (v4 : Int32) : Option Wd :=
  chk (ib (0 : Int32) 770) (lt (gI σ 26 (ix (0 : Int32))) fun v5_6 => bnd1 (M_X9_clockOf σ v2) fun r10 => lt (r10 + (1 : Int32)) fun v6_15 => chk (ib (0 : Int32) 770) (chk (ib (0 : Int32) 770) (lt (uI σ 26 (ix (0 : Int32)) ((gI σ 26 (ix (0 : Int32))) + (1 : Int32))) fun s_26 => chk (ib ((110 : Int32) + ((5 : Int32) * v5_6)) 770) (lt (uI s_26 26 (ix ((110 : Int32) + ((5 : Int32) * v5_6))) v3) fun s_39 => chk (ib (((110 : Int32) + ((5 : Int32) * v5_6)) + (1 : Int32)) 770) (lt (uI s_39 26 (ix (((110 : Int32) + ((5 : Int32) * v5_6)) + (1 : Int32))) v4) fun s_55 => chk (ib (((110 : Int32) + ((5 : Int32) * v5_6)) + (2 : Int32)) 770) (lt (uI s_55 26 (ix (((110 : Int32) + ((5 : Int32) * v5_6)) + (2 : Int32))) v2) fun s_70 => chk (ib (((110 : Int32) + ((5 : Int32) * v5_6)) + (3 : Int32)) 770) (lt (uI s_70 26 (ix (((110 : Int32) + ((5 : Int32) * v5_6)) + (3 : Int32))) v6_15) fun s_86 => chk (ib (((110 : Int32) + ((5 : Int32) * v5_6)) + (4 : Int32)) 770) (lt (uI s_86 26 (ix (((110 : Int32) + ((5 : Int32) * v5_6)) + (4 : Int32))) (-2 : Int32)) fun s_102 => chk (ib (((470 : Int32) + ((60 : Int32) * v2)) + v5_6) 770) (lt (uI s_102 26 (ix (((470 : Int32) + ((60 : Int32) * v2)) + v5_6)) (1 : Int32)) fun s_119 => if v1 < 0 then (M_X9_makes_J143 s_119 v2) else (chk (ib ((((50 : Int32) + ((14 : Int32) * v1)) + (8 : Int32)) + v2) 770) (lt (uI s_119 26 (ix ((((50 : Int32) + ((14 : Int32) * v1)) + (8 : Int32)) + v2)) v6_15) fun s_142 => M_X9_makes_J143 s_142 v2)))))))))))
set_option maxRecDepth 100000 in
set_option maxHeartbeats 4000000 in
theorem c_X9_makes (V : Vt) (l : Launch) (σ : Wd) (v1 : Int32) (v2 : Int32) (v3 : Int32) (v4 : Int32) {σ2 : Wd} (h : M_X9_makes σ v1 v2 v3 v4 = some σ2) : Ct l (Zm V) yX9_makes cX9_makes 7 none 4 92 [.ref (zA (Zm V) 0), .int v1, .int v2, .int v3, .int v4] σ none σ2 := by
  refine Ct_intro (own := RX9) zm_ok (by decide +kernel) rfl (Nat.le_of_ble_eq_true rfl) [(0, .ref (zA (Zm V) 0)), (1, .int v1), (2, .int v2), (3, .int v3), (4, .int v4)] rfl (fun K C R hKl hnL => ?_)
  have hN := nl_of hnL
  subst hKl
  refine Y_end h ?_
  unfold M_X9_makes
  refine x_aload_n C 0 0 dX9_makes_0 rfl ?_
  refine fg_row C 1 dX9_makes_1 ?_
  refine x_iconst C 4 dX9_makes_4 ki_0 ?_
  refine x_iald C 5 (Nat.le_of_ble_eq_true rfl) (km_26 V _) dX9_makes_5 (fun _ => ?_)
  refine x_istoret C 6 (fun v5_6 => [(5, .int v5_6), (0, .ref (zA (Zm V) 0)), (1, .int v1), (2, .int v2), (3, .int v3), (4, .int v4)]) dX9_makes_6 (hN _ (Nat.le_of_ble_eq_true rfl)) (fun _ => rfl) (fun v5_6 => ?_)
  refine x_aload_n C 8 1 dX9_makes_8 rfl ?_
  refine x_iload_n C 9 3 dX9_makes_9 rfl ?_
  refine Y_bnd1 (fun r10 h10 => ?_)
  refine x_callVi C 10 [.int v2] [] rfl tw_1623 mv_X9_clockOf (Nat.le_of_ble_eq_true rfl) (Nat.le_of_ble_eq_true rfl) (Nat.le_of_ble_eq_true rfl) (Nat.le_of_ble_eq_true rfl) (km_0 V _) rfl dX9_makes_10 (c_X9_clockOf V _ _ _ h10) ?_
  refine x_iconst C 13 dX9_makes_13 ki_1 ?_
  refine x_iadd C 14 dX9_makes_14 ?_
  refine x_istoret C 15 (fun v6_15 => [(6, .int v6_15), (5, .int v5_6), (0, .ref (zA (Zm V) 0)), (1, .int v1), (2, .int v2), (3, .int v3), (4, .int v4)]) dX9_makes_15 (hN _ (Nat.le_of_ble_eq_true rfl)) (fun _ => rfl) (fun v6_15 => ?_)
  refine x_aload_n C 17 2 dX9_makes_17 rfl ?_
  refine fg_row C 18 dX9_makes_18 ?_
  refine x_iconst C 21 dX9_makes_21 ki_0 ?_
  refine x_dup2 C 22 dX9_makes_22 rfl rfl ?_
  refine x_iald C 23 (Nat.le_of_ble_eq_true rfl) (km_26 V _) dX9_makes_23 (fun _ => ?_)
  refine x_iconst C 24 dX9_makes_24 ki_1 ?_
  refine x_iadd C 25 dX9_makes_25 ?_
  refine x_iast C 26 (Nat.le_of_ble_eq_true rfl) (km_26 V) dX9_makes_26 (fun _ s_26 => ?_)
  refine x_aload_n C 27 2 dX9_makes_27 rfl ?_
  refine fg_row C 28 dX9_makes_28 ?_
  refine x_bipush C 31 dX9_makes_31 kb_110 ?_
  refine x_iconst C 33 dX9_makes_33 ki_5 ?_
  refine x_iload C 34 1 dX9_makes_34 rfl ?_
  refine x_imul C 36 dX9_makes_36 ?_
  refine x_iadd C 37 dX9_makes_37 ?_
  refine x_iload_n C 38 5 dX9_makes_38 rfl ?_
  refine x_iast C 39 (Nat.le_of_ble_eq_true rfl) (km_26 V) dX9_makes_39 (fun _ s_39 => ?_)
  refine x_aload_n C 40 2 dX9_makes_40 rfl ?_
  refine fg_row C 41 dX9_makes_41 ?_
  refine x_bipush C 44 dX9_makes_44 kb_110 ?_
  refine x_iconst C 46 dX9_makes_46 ki_5 ?_
  refine x_iload C 47 1 dX9_makes_47 rfl ?_
  refine x_imul C 49 dX9_makes_49 ?_
  refine x_iadd C 50 dX9_makes_50 ?_
  refine x_iconst C 51 dX9_makes_51 ki_1 ?_
  refine x_iadd C 52 dX9_makes_52 ?_
  refine x_iload C 53 6 dX9_makes_53 rfl ?_
  refine x_iast C 55 (Nat.le_of_ble_eq_true rfl) (km_26 V) dX9_makes_55 (fun _ s_55 => ?_)
  refine x_aload_n C 56 2 dX9_makes_56 rfl ?_
  refine fg_row C 57 dX9_makes_57 ?_
  refine x_bipush C 60 dX9_makes_60 kb_110 ?_
  refine x_iconst C 62 dX9_makes_62 ki_5 ?_
  refine x_iload C 63 1 dX9_makes_63 rfl ?_
  refine x_imul C 65 dX9_makes_65 ?_
  refine x_iadd C 66 dX9_makes_66 ?_
  refine x_iconst C 67 dX9_makes_67 ki_2 ?_
  refine x_iadd C 68 dX9_makes_68 ?_
  refine x_iload_n C 69 4 dX9_makes_69 rfl ?_
  refine x_iast C 70 (Nat.le_of_ble_eq_true rfl) (km_26 V) dX9_makes_70 (fun _ s_70 => ?_)
  refine x_aload_n C 71 2 dX9_makes_71 rfl ?_
  refine fg_row C 72 dX9_makes_72 ?_
  refine x_bipush C 75 dX9_makes_75 kb_110 ?_
  refine x_iconst C 77 dX9_makes_77 ki_5 ?_
  refine x_iload C 78 1 dX9_makes_78 rfl ?_
  refine x_imul C 80 dX9_makes_80 ?_
  refine x_iadd C 81 dX9_makes_81 ?_
  refine x_iconst C 82 dX9_makes_82 ki_3 ?_
  refine x_iadd C 83 dX9_makes_83 ?_
  refine x_iload C 84 0 dX9_makes_84 rfl ?_
  refine x_iast C 86 (Nat.le_of_ble_eq_true rfl) (km_26 V) dX9_makes_86 (fun _ s_86 => ?_)
  refine x_aload_n C 87 2 dX9_makes_87 rfl ?_
  refine fg_row C 88 dX9_makes_88 ?_
  refine x_bipush C 91 dX9_makes_91 kb_110 ?_
  refine x_iconst C 93 dX9_makes_93 ki_5 ?_
  refine x_iload C 94 1 dX9_makes_94 rfl ?_
  refine x_imul C 96 dX9_makes_96 ?_
  refine x_iadd C 97 dX9_makes_97 ?_
  refine x_iconst C 98 dX9_makes_98 ki_4 ?_
  refine x_iadd C 99 dX9_makes_99 ?_
  refine x_bipush C 100 dX9_makes_100 kb_m2 ?_
  refine x_iast C 102 (Nat.le_of_ble_eq_true rfl) (km_26 V) dX9_makes_102 (fun _ s_102 => ?_)
  refine x_aload_n C 103 2 dX9_makes_103 rfl ?_
  refine fg_row C 104 dX9_makes_104 ?_
  refine x_sipush C 107 dX9_makes_107 ks_470 ?_
  refine x_bipush C 110 dX9_makes_110 kb_60 ?_
  refine x_iload_n C 112 4 dX9_makes_112 rfl ?_
  refine x_imul C 113 dX9_makes_113 ?_
  refine x_iadd C 114 dX9_makes_114 ?_
  refine x_iload C 115 1 dX9_makes_115 rfl ?_
  refine x_iadd C 117 dX9_makes_117 ?_
  refine x_iconst C 118 dX9_makes_118 ki_1 ?_
  refine x_iast C 119 (Nat.le_of_ble_eq_true rfl) (km_26 V) dX9_makes_119 (fun _ s_119 => ?_)
  refine x_iload_n C 120 3 dX9_makes_120 rfl ?_
  have hJ143 : ∀ (σ_143 : Wd) (v2_143 : Int32), Y K (Zm V) (M_X9_makes_J143 σ_143 v2_143) (fun q => q = σ2) σ_143 143 [(0, .ref (zA (Zm V) 0)), (2, .int v2_143)] [] := by
    intro σ_143 v2_143
    unfold M_X9_makes_J143
    refine x_iload_n C 143 1 dX9_makes_143 rfl ?_
    refine x_aload_n C 144 0 dX9_makes_144 rfl ?_
    refine fg_row C 145 dX9_makes_145 ?_
    refine x_iconst C 148 dX9_makes_148 ki_2 ?_
    refine x_iald C 149 (Nat.le_of_ble_eq_true rfl) (km_26 V _) dX9_makes_149 (fun _ => ?_)
    refine x_icmp_ne C 150 158 dX9_makes_150 (by decide) (fun _ => ?_) (fun _ => ?_)
    · exact x_vret C R 158 dX9_makes_158
    · refine x_aload_n C 153 0 dX9_makes_153 rfl ?_
      refine x_iload_n C 154 1 dX9_makes_154 rfl ?_
      refine Y_bnd1 (fun s_155 h155 => ?_)
      refine x_callVv C 155 [.int v2_143] [] rfl tw_1627 mv_X9_gives (Nat.le_of_ble_eq_true rfl) (Nat.le_of_ble_eq_true rfl) (Nat.le_of_ble_eq_true rfl) (Nat.le_of_ble_eq_true rfl) (km_0 V _) rfl dX9_makes_155 (c_X9_gives V _ _ _ h155) ?_
      exact x_vret C R 158 dX9_makes_158
  refine x_if_lt C 121 143 dX9_makes_121 (by decide) (fun _ => ?_) (fun _ => ?_)
  · refine Y_sub [2, 4] rfl ?_
    exact hJ143 _ _
  · refine x_aload_n C 124 2 dX9_makes_124 rfl ?_
    refine fg_row C 125 dX9_makes_125 ?_
    refine x_bipush C 128 dX9_makes_128 kb_50 ?_
    refine x_bipush C 130 dX9_makes_130 kb_14 ?_
    refine x_iload_n C 132 3 dX9_makes_132 rfl ?_
    refine x_imul C 133 dX9_makes_133 ?_
    refine x_iadd C 134 dX9_makes_134 ?_
    refine x_bipush C 135 dX9_makes_135 kb_8 ?_
    refine x_iadd C 137 dX9_makes_137 ?_
    refine x_iload_n C 138 4 dX9_makes_138 rfl ?_
    refine x_iadd C 139 dX9_makes_139 ?_
    refine x_iload C 140 0 dX9_makes_140 rfl ?_
    refine x_iast C 142 (Nat.le_of_ble_eq_true rfl) (km_26 V) dX9_makes_142 (fun _ s_142 => ?_)
    refine Y_sub [2, 4] rfl ?_
    exact hJ143 _ _
def M_X9_isBehind_L2 (σ : Wd) (v1 : Int32) (v2 : Int32) (v3 : Int32) : Option ((Int32) ⊕ ((Unit) ⊕ Int32)) :=
  chk (ib (gI σ 0 18) 2) (if (gI σ 10 (ix (gI σ 0 18))) ≤ v3 then (some (.inr (.inl ()))) else (bnd1 (M_X9_vectorOf σ v1 v3) fun r18 => chk (ib (v2 + v3) 770) (if (gI σ 26 (ix (v2 + v3))) ≤ r18 then (lt (v3 + (1 : Int32)) fun v3_34 => some (.inl v3_34)) else (some (.inr (.inr (1 : Int32)))))))
def M_X9_isBehind (σ : Wd) (v1 : Int32) (v2 : Int32) : Option Int32 :=
  bnd1 (iter (fun s : Int32 => M_X9_isBehind_L2 σ v1 v2 s) FU (0 : Int32)) (sx (un0 (some (0 : Int32))) (fun q => some q))
set_option maxRecDepth 100000 in
set_option maxHeartbeats 4000000 in
theorem c_X9_isBehind (V : Vt) (l : Launch) (σ : Wd) (v1 : Int32) (v2 : Int32) {r : Int32} (h : M_X9_isBehind σ v1 v2 = some r) : Ct l (Zm V) yX9_isBehind cX9_isBehind 4 (some .boolean) 2 46 [.ref (zA (Zm V) 0), .int v1, .int v2] σ (some (.int r)) σ := by
  refine Ct_intro (own := RX9) zm_ok (by decide +kernel) rfl (Nat.le_of_ble_eq_true rfl) [(0, .ref (zA (Zm V) 0)), (1, .int v1), (2, .int v2)] rfl (fun K C R hKl hnL => ?_)
  have hN := nl_of hnL
  subst hKl
  refine Y_end h ?_
  unfold M_X9_isBehind
  refine x_iconst C 0 dX9_isBehind_0 ki_0 ?_
  refine x_istore_n C 1 (L' := [(3, .int (0 : Int32)), (0, .ref (zA (Zm V) 0)), (1, .int v1), (2, .int v2)]) dX9_isBehind_1 rfl (hN _ (Nat.le_of_ble_eq_true rfl)) rfl ?_
  refine Y_sub [1, 2, 3, 0] rfl ?_
  refine x_loop 2 (fun s : Int32 => σ) (fun s : Int32 => [(0, .ref (zA (Zm V) 0)), (1, .int v1), (2, .int v2), (3, .int s)]) (fun E2 hb2 hx2 s => ?_) FU (0 : Int32)
  obtain ⟨v3_2, rfl⟩ : ∃ z, z = s := ⟨s, rfl⟩
  show Y K (Zm V) (M_X9_isBehind_L2 σ v1 v2 v3_2) E2 σ 2 [(0, .ref (zA (Zm V) 0)), (1, .int v1), (2, .int v2), (3, .int v3_2)] []
  unfold M_X9_isBehind_L2
  refine x_iload_n C 2 3 dX9_isBehind_2 rfl ?_
  refine x_aload_n C 3 0 dX9_isBehind_3 rfl ?_
  refine fg_copies C 4 dX9_isBehind_4 ?_
  refine x_aload_n C 7 0 dX9_isBehind_7 rfl ?_
  refine fg_live C 8 dX9_isBehind_8 ?_
  refine x_iald C 11 (Nat.le_of_ble_eq_true rfl) (km_10 V _) dX9_isBehind_11 (fun _ => ?_)
  refine x_icmp_ge C 12 40 dX9_isBehind_12 (by decide) (fun _ => ?_) (fun _ => ?_)
  · refine x_exl0 hx2 ?_
    refine x_iconst C 40 dX9_isBehind_40 ki_0 ?_
    exact x_zret1 C R 41 (zb_nar (r := (0 : Int32)) (Or.inl rfl)) dX9_isBehind_41
  · refine x_aload_n C 15 0 dX9_isBehind_15 rfl ?_
    refine x_iload_n C 16 1 dX9_isBehind_16 rfl ?_
    refine x_iload_n C 17 3 dX9_isBehind_17 rfl ?_
    refine Y_bnd1 (fun r18 h18 => ?_)
    refine x_callVi C 18 [.int v1, .int v3_2] [] rfl tw_1603 mv_X9_vectorOf (Nat.le_of_ble_eq_true rfl) (Nat.le_of_ble_eq_true rfl) (Nat.le_of_ble_eq_true rfl) (Nat.le_of_ble_eq_true rfl) (km_0 V _) rfl dX9_isBehind_18 (c_X9_vectorOf V _ _ _ _ h18) ?_
    refine x_aload_n C 21 0 dX9_isBehind_21 rfl ?_
    refine fg_row C 22 dX9_isBehind_22 ?_
    refine x_iload_n C 25 2 dX9_isBehind_25 rfl ?_
    refine x_iload_n C 26 3 dX9_isBehind_26 rfl ?_
    refine x_iadd C 27 dX9_isBehind_27 ?_
    refine x_iald C 28 (Nat.le_of_ble_eq_true rfl) (km_26 V _) dX9_isBehind_28 (fun _ => ?_)
    refine x_icmp_ge C 29 34 dX9_isBehind_29 (by decide) (fun _ => ?_) (fun _ => ?_)
    · refine x_iinct C 34 3 (1 : Int32) (fun v3_34 => [(3, .int v3_34), (0, .ref (zA (Zm V) 0)), (1, .int v1), (2, .int v2)]) dX9_isBehind_34 rfl ki_1 (hN _ (Nat.le_of_ble_eq_true rfl)) (fun _ => rfl) (fun v3_34 => ?_)
      refine x_goto C 37 2 dX9_isBehind_37 (by decide) ?_
      refine Y_sub [1, 2, 3, 0] rfl ?_
      exact x_back v3_34 (hb2 v3_34)
    · refine x_iconst C 32 dX9_isBehind_32 ki_1 ?_
      refine x_exr hx2 _ ?_
      exact x_zret1 C R 33 (zb_nar (r := (1 : Int32)) (Or.inr rfl)) dX9_isBehind_33
def M_X9_mayAsk_J38 (σ : Wd) (v2 : Int32) (v3 : Int32) (v4 : Int32) : Option Int32 :=
  chk (¬ (2 : Int32) = 0) (chk (¬ (2 : Int32) = 0) (if ((v4 / (2 : Int32)) - (v4 / (2 : Int32)) / (2 : Int32) * (2 : Int32)) ≠ (1 : Int32) then (some (1 : Int32)) else (bnd1 (M_X9_isBehind σ v2 (v3 + (3 : Int32))) fun r53 => if r53 ≠ 0 then (some (0 : Int32)) else (some (1 : Int32)))))
def M_X9_mayAsk (σ : Wd) (v1 : Int32) (v2 : Int32) : Option Int32 :=
  lt ((50 : Int32) + ((14 : Int32) * v1)) fun v3_7 => chk (ib (v3_7 + (0 : Int32)) 770) (lt (gI σ 26 (ix (v3_7 + (0 : Int32)))) fun v4_16 => chk (¬ (2 : Int32) = 0) (if (v4_16 - v4_16 / (2 : Int32) * (2 : Int32)) ≠ (1 : Int32) then (M_X9_mayAsk_J38 σ v2 v3_7 v4_16) else (bnd1 (M_X9_isBehind σ v2 (v3_7 + (8 : Int32))) fun r32 => if r32 ≠ 0 then (some (0 : Int32)) else (M_X9_mayAsk_J38 σ v2 v3_7 v4_16))))
set_option maxRecDepth 100000 in
set_option maxHeartbeats 4000000 in
theorem c_X9_mayAsk (V : Vt) (l : Launch) (σ : Wd) (v1 : Int32) (v2 : Int32) {r : Int32} (h : M_X9_mayAsk σ v1 v2 = some r) : Ct l (Zm V) yX9_mayAsk cX9_mayAsk 5 (some .boolean) 3 69 [.ref (zA (Zm V) 0), .int v1, .int v2] σ (some (.int r)) σ := by
  refine Ct_intro (own := RX9) zm_ok (by decide +kernel) rfl (Nat.le_of_ble_eq_true rfl) [(0, .ref (zA (Zm V) 0)), (1, .int v1), (2, .int v2)] rfl (fun K C R hKl hnL => ?_)
  have hN := nl_of hnL
  subst hKl
  refine Y_end h ?_
  unfold M_X9_mayAsk
  refine x_bipush C 0 dX9_mayAsk_0 kb_50 ?_
  refine x_bipush C 2 dX9_mayAsk_2 kb_14 ?_
  refine x_iload_n C 4 1 dX9_mayAsk_4 rfl ?_
  refine x_imul C 5 dX9_mayAsk_5 ?_
  refine x_iadd C 6 dX9_mayAsk_6 ?_
  refine x_istore_nt C 7 (fun v3_7 => [(3, .int v3_7), (0, .ref (zA (Zm V) 0)), (1, .int v1), (2, .int v2)]) dX9_mayAsk_7 rfl (hN _ (Nat.le_of_ble_eq_true rfl)) (fun _ => rfl) (fun v3_7 => ?_)
  refine x_aload_n C 8 1 dX9_mayAsk_8 rfl ?_
  refine fg_row C 9 dX9_mayAsk_9 ?_
  refine x_iload_n C 12 0 dX9_mayAsk_12 rfl ?_
  refine x_iconst C 13 dX9_mayAsk_13 ki_0 ?_
  refine x_iadd C 14 dX9_mayAsk_14 ?_
  refine x_iald C 15 (Nat.le_of_ble_eq_true rfl) (km_26 V _) dX9_mayAsk_15 (fun _ => ?_)
  refine x_istoret C 16 (fun v4_16 => [(4, .int v4_16), (3, .int v3_7), (0, .ref (zA (Zm V) 0)), (1, .int v1), (2, .int v2)]) dX9_mayAsk_16 (hN _ (Nat.le_of_ble_eq_true rfl)) (fun _ => rfl) (fun v4_16 => ?_)
  refine x_iload C 18 0 dX9_mayAsk_18 rfl ?_
  refine x_iconst C 20 dX9_mayAsk_20 ki_2 ?_
  refine Y_chk (fun q21 => ?_)
  refine x_irem C 21 dX9_mayAsk_21 q21 ?_
  refine x_iconst C 22 dX9_mayAsk_22 ki_1 ?_
  have hJ38 : ∀ (v2_38 : Int32) (v3_38 : Int32) (v4_38 : Int32), Y K (Zm V) (M_X9_mayAsk_J38 σ v2_38 v3_38 v4_38) (fun q => q = r) σ 38 [(0, .ref (zA (Zm V) 0)), (2, .int v2_38), (3, .int v3_38), (4, .int v4_38)] [] := by
    intro v2_38 v3_38 v4_38
    unfold M_X9_mayAsk_J38
    refine x_iload C 38 3 dX9_mayAsk_38 rfl ?_
    refine x_iconst C 40 dX9_mayAsk_40 ki_2 ?_
    refine Y_chk (fun q41 => ?_)
    refine x_idiv C 41 dX9_mayAsk_41 q41 ?_
    refine x_iconst C 42 dX9_mayAsk_42 ki_2 ?_
    refine Y_chk (fun q43 => ?_)
    refine x_irem C 43 dX9_mayAsk_43 q43 ?_
    refine x_iconst C 44 dX9_mayAsk_44 ki_1 ?_
    refine x_icmp_ne C 45 59 dX9_mayAsk_45 (by decide) (fun _ => ?_) (fun _ => ?_)
    · refine x_iconst C 59 dX9_mayAsk_59 ki_1 ?_
      refine x_goto C 60 64 dX9_mayAsk_60 (by decide) ?_
      exact x_zret1 C R 64 (zb_nar (r := (1 : Int32)) (Or.inr rfl)) dX9_mayAsk_64
    · refine x_aload_n C 48 0 dX9_mayAsk_48 rfl ?_
      refine x_iload_n C 49 1 dX9_mayAsk_49 rfl ?_
      refine x_iload_n C 50 2 dX9_mayAsk_50 rfl ?_
      refine x_iconst C 51 dX9_mayAsk_51 ki_3 ?_
      refine x_iadd C 52 dX9_mayAsk_52 ?_
      refine Y_bnd1 (fun r53 h53 => ?_)
      refine x_callVi C 53 [.int v2_38, .int (v3_38 + (3 : Int32))] [] rfl tw_1599 mv_X9_isBehind (Nat.le_of_ble_eq_true rfl) (Nat.le_of_ble_eq_true rfl) (Nat.le_of_ble_eq_true rfl) (Nat.le_of_ble_eq_true rfl) (km_0 V _) rfl dX9_mayAsk_53 (c_X9_isBehind V _ _ _ _ h53) ?_
      refine x_if_ne C 56 63 dX9_mayAsk_56 (by decide) (fun _ => ?_) (fun _ => ?_)
      · refine x_iconst C 63 dX9_mayAsk_63 ki_0 ?_
        exact x_zret1 C R 64 (zb_nar (r := (0 : Int32)) (Or.inl rfl)) dX9_mayAsk_64
      · refine x_iconst C 59 dX9_mayAsk_59 ki_1 ?_
        refine x_goto C 60 64 dX9_mayAsk_60 (by decide) ?_
        exact x_zret1 C R 64 (zb_nar (r := (1 : Int32)) (Or.inr rfl)) dX9_mayAsk_64
  refine x_icmp_ne C 23 38 dX9_mayAsk_23 (by decide) (fun _ => ?_) (fun _ => ?_)
  · refine Y_sub [2, 4, 1, 0] rfl ?_
    exact hJ38 _ _ _
  · refine x_aload_n C 26 2 dX9_mayAsk_26 rfl ?_
    refine x_iload_n C 27 4 dX9_mayAsk_27 rfl ?_
    refine x_iload_n C 28 1 dX9_mayAsk_28 rfl ?_
    refine x_bipush C 29 dX9_mayAsk_29 kb_8 ?_
    refine x_iadd C 31 dX9_mayAsk_31 ?_
    refine Y_bnd1 (fun r32 h32 => ?_)
    refine x_callVi C 32 [.int v2, .int (v3_7 + (8 : Int32))] [] rfl tw_1599 mv_X9_isBehind (Nat.le_of_ble_eq_true rfl) (Nat.le_of_ble_eq_true rfl) (Nat.le_of_ble_eq_true rfl) (Nat.le_of_ble_eq_true rfl) (km_0 V _) rfl dX9_mayAsk_32 (c_X9_isBehind V _ _ _ _ h32) ?_
    refine x_if_ne C 35 63 dX9_mayAsk_35 (by decide) (fun _ => ?_) (fun _ => ?_)
    · refine x_iconst C 63 dX9_mayAsk_63 ki_0 ?_
      exact x_zret1 C R 64 (zb_nar (r := (0 : Int32)) (Or.inl rfl)) dX9_mayAsk_64
    · refine Y_sub [2, 4, 1, 0] rfl ?_
      exact hJ38 _ _ _
def M_X9_mayMake_J39 (σ : Wd) (v2 : Int32) (v3 : Int32) (v4 : Int32) : Option Int32 :=
  chk (¬ (8 : Int32) = 0) (if (v4 / (8 : Int32)) ≠ (1 : Int32) then (some (1 : Int32)) else (bnd1 (M_X9_isBehind σ v2 (v3 + (8 : Int32))) fun r54 => if r54 ≠ 0 then (some (0 : Int32)) else (some (1 : Int32))))
def M_X9_mayMake (σ : Wd) (v1 : Int32) (v2 : Int32) : Option Int32 :=
  lt ((50 : Int32) + ((14 : Int32) * v1)) fun v3_7 => chk (ib (v3_7 + (0 : Int32)) 770) (lt (gI σ 26 (ix (v3_7 + (0 : Int32)))) fun v4_16 => chk (¬ (4 : Int32) = 0) (chk (¬ (2 : Int32) = 0) (if ((v4_16 / (4 : Int32)) - (v4_16 / (4 : Int32)) / (2 : Int32) * (2 : Int32)) ≠ (1 : Int32) then (M_X9_mayMake_J39 σ v2 v3_7 v4_16) else (bnd1 (M_X9_isBehind σ v2 (v3_7 + (3 : Int32))) fun r33 => if r33 ≠ 0 then (some (0 : Int32)) else (M_X9_mayMake_J39 σ v2 v3_7 v4_16)))))
set_option maxRecDepth 100000 in
set_option maxHeartbeats 4000000 in
theorem c_X9_mayMake (V : Vt) (l : Launch) (σ : Wd) (v1 : Int32) (v2 : Int32) {r : Int32} (h : M_X9_mayMake σ v1 v2 = some r) : Ct l (Zm V) yX9_mayMake cX9_mayMake 5 (some .boolean) 3 69 [.ref (zA (Zm V) 0), .int v1, .int v2] σ (some (.int r)) σ := by
  refine Ct_intro (own := RX9) zm_ok (by decide +kernel) rfl (Nat.le_of_ble_eq_true rfl) [(0, .ref (zA (Zm V) 0)), (1, .int v1), (2, .int v2)] rfl (fun K C R hKl hnL => ?_)
  have hN := nl_of hnL
  subst hKl
  refine Y_end h ?_
  unfold M_X9_mayMake
  refine x_bipush C 0 dX9_mayMake_0 kb_50 ?_
  refine x_bipush C 2 dX9_mayMake_2 kb_14 ?_
  refine x_iload_n C 4 1 dX9_mayMake_4 rfl ?_
  refine x_imul C 5 dX9_mayMake_5 ?_
  refine x_iadd C 6 dX9_mayMake_6 ?_
  refine x_istore_nt C 7 (fun v3_7 => [(3, .int v3_7), (0, .ref (zA (Zm V) 0)), (1, .int v1), (2, .int v2)]) dX9_mayMake_7 rfl (hN _ (Nat.le_of_ble_eq_true rfl)) (fun _ => rfl) (fun v3_7 => ?_)
  refine x_aload_n C 8 1 dX9_mayMake_8 rfl ?_
  refine fg_row C 9 dX9_mayMake_9 ?_
  refine x_iload_n C 12 0 dX9_mayMake_12 rfl ?_
  refine x_iconst C 13 dX9_mayMake_13 ki_0 ?_
  refine x_iadd C 14 dX9_mayMake_14 ?_
  refine x_iald C 15 (Nat.le_of_ble_eq_true rfl) (km_26 V _) dX9_mayMake_15 (fun _ => ?_)
  refine x_istoret C 16 (fun v4_16 => [(4, .int v4_16), (3, .int v3_7), (0, .ref (zA (Zm V) 0)), (1, .int v1), (2, .int v2)]) dX9_mayMake_16 (hN _ (Nat.le_of_ble_eq_true rfl)) (fun _ => rfl) (fun v4_16 => ?_)
  refine x_iload C 18 0 dX9_mayMake_18 rfl ?_
  refine x_iconst C 20 dX9_mayMake_20 ki_4 ?_
  refine Y_chk (fun q21 => ?_)
  refine x_idiv C 21 dX9_mayMake_21 q21 ?_
  refine x_iconst C 22 dX9_mayMake_22 ki_2 ?_
  refine Y_chk (fun q23 => ?_)
  refine x_irem C 23 dX9_mayMake_23 q23 ?_
  refine x_iconst C 24 dX9_mayMake_24 ki_1 ?_
  have hJ39 : ∀ (v2_39 : Int32) (v3_39 : Int32) (v4_39 : Int32), Y K (Zm V) (M_X9_mayMake_J39 σ v2_39 v3_39 v4_39) (fun q => q = r) σ 39 [(0, .ref (zA (Zm V) 0)), (2, .int v2_39), (3, .int v3_39), (4, .int v4_39)] [] := by
    intro v2_39 v3_39 v4_39
    unfold M_X9_mayMake_J39
    refine x_iload C 39 3 dX9_mayMake_39 rfl ?_
    refine x_bipush C 41 dX9_mayMake_41 kb_8 ?_
    refine Y_chk (fun q43 => ?_)
    refine x_idiv C 43 dX9_mayMake_43 q43 ?_
    refine x_iconst C 44 dX9_mayMake_44 ki_1 ?_
    refine x_icmp_ne C 45 60 dX9_mayMake_45 (by decide) (fun _ => ?_) (fun _ => ?_)
    · refine x_iconst C 60 dX9_mayMake_60 ki_1 ?_
      refine x_goto C 61 65 dX9_mayMake_61 (by decide) ?_
      exact x_zret1 C R 65 (zb_nar (r := (1 : Int32)) (Or.inr rfl)) dX9_mayMake_65
    · refine x_aload_n C 48 0 dX9_mayMake_48 rfl ?_
      refine x_iload_n C 49 1 dX9_mayMake_49 rfl ?_
      refine x_iload_n C 50 2 dX9_mayMake_50 rfl ?_
      refine x_bipush C 51 dX9_mayMake_51 kb_8 ?_
      refine x_iadd C 53 dX9_mayMake_53 ?_
      refine Y_bnd1 (fun r54 h54 => ?_)
      refine x_callVi C 54 [.int v2_39, .int (v3_39 + (8 : Int32))] [] rfl tw_1599 mv_X9_isBehind (Nat.le_of_ble_eq_true rfl) (Nat.le_of_ble_eq_true rfl) (Nat.le_of_ble_eq_true rfl) (Nat.le_of_ble_eq_true rfl) (km_0 V _) rfl dX9_mayMake_54 (c_X9_isBehind V _ _ _ _ h54) ?_
      refine x_if_ne C 57 64 dX9_mayMake_57 (by decide) (fun _ => ?_) (fun _ => ?_)
      · refine x_iconst C 64 dX9_mayMake_64 ki_0 ?_
        exact x_zret1 C R 65 (zb_nar (r := (0 : Int32)) (Or.inl rfl)) dX9_mayMake_65
      · refine x_iconst C 60 dX9_mayMake_60 ki_1 ?_
        refine x_goto C 61 65 dX9_mayMake_61 (by decide) ?_
        exact x_zret1 C R 65 (zb_nar (r := (1 : Int32)) (Or.inr rfl)) dX9_mayMake_65
  refine x_icmp_ne C 25 39 dX9_mayMake_25 (by decide) (fun _ => ?_) (fun _ => ?_)
  · refine Y_sub [2, 4, 1, 0] rfl ?_
    exact hJ39 _ _ _
  · refine x_aload_n C 28 2 dX9_mayMake_28 rfl ?_
    refine x_iload_n C 29 4 dX9_mayMake_29 rfl ?_
    refine x_iload_n C 30 1 dX9_mayMake_30 rfl ?_
    refine x_iconst C 31 dX9_mayMake_31 ki_3 ?_
    refine x_iadd C 32 dX9_mayMake_32 ?_
    refine Y_bnd1 (fun r33 h33 => ?_)
    refine x_callVi C 33 [.int v2, .int (v3_7 + (3 : Int32))] [] rfl tw_1599 mv_X9_isBehind (Nat.le_of_ble_eq_true rfl) (Nat.le_of_ble_eq_true rfl) (Nat.le_of_ble_eq_true rfl) (Nat.le_of_ble_eq_true rfl) (km_0 V _) rfl dX9_mayMake_33 (c_X9_isBehind V _ _ _ _ h33) ?_
    refine x_if_ne C 36 64 dX9_mayMake_36 (by decide) (fun _ => ?_) (fun _ => ?_)
    · refine x_iconst C 64 dX9_mayMake_64 ki_0 ?_
      exact x_zret1 C R 65 (zb_nar (r := (0 : Int32)) (Or.inl rfl)) dX9_mayMake_65
    · refine Y_sub [2, 4, 1, 0] rfl ?_
      exact hJ39 _ _ _
def M_X9_records_L52 (v1 : Int32) (σ : Wd) : Option ((Int32 × Wd) ⊕ (Wd)) :=
  if (770 : Int32) ≤ v1 then (some (.inr σ)) else (chk (ib v1 770) (chk (ib (((770 : Int32) * (gI σ 0 51)) + v1) 30800) (lt (uI σ 32 (ix (((770 : Int32) * (gI σ 0 51)) + v1)) (gI σ 25 (ix v1))) fun s_79 => lt (v1 + (1 : Int32)) fun v1_80 => some (.inl (v1_80, s_79)))))
def M_X9_records_J50 (σ : Wd) : Option Wd :=
  bnd1 (iter (fun s : Int32 × Wd => M_X9_records_L52 s.1 s.2) FU ((0 : Int32), σ)) (un1 fun sx_52 => (lt (uI sx_52 0 51 ((gI sx_52 0 51) + (1 : Int32))) fun s_93 => bnd1 (M_X9_keepsRow s_93) fun s_97 => some s_97))
def M_X9_records_L11 (v1 : Int32) (σ : Wd) : Option ((Int32 × Wd) ⊕ (Wd)) :=
  if (30030 : Int32) ≤ v1 then (some (.inr σ)) else (chk (ib (v1 + (770 : Int32)) 30800) (chk (ib v1 30800) (lt (uI σ 32 (ix v1) (gI σ 32 (ix (v1 + (770 : Int32))))) fun s_33 => lt (v1 + (1 : Int32)) fun v1_34 => some (.inl (v1_34, s_33)))))
def M_X9_records (σ : Wd) : Option Wd :=
  if (gI σ 0 51) ≠ (40 : Int32) then (M_X9_records_J50 σ) else (bnd1 (iter (fun s : Int32 × Wd => M_X9_records_L11 s.1 s.2) FU ((0 : Int32), σ)) (un1 fun sx_11 => (lt (uI sx_11 0 51 ((gI sx_11 0 51) - (1 : Int32))) fun s_47 => M_X9_records_J50 s_47)))
set_option maxRecDepth 100000 in
set_option maxHeartbeats 4000000 in
theorem c_X9_records (V : Vt) (l : Launch) (σ : Wd) {σ2 : Wd} (h : M_X9_records σ = some σ2) : Ct l (Zm V) yX9_records cX9_records 2 none 1 21 [.ref (zA (Zm V) 0)] σ none σ2 := by
  refine Ct_intro (own := RX9) zm_ok (by decide +kernel) rfl (Nat.le_of_ble_eq_true rfl) [(0, .ref (zA (Zm V) 0))] rfl (fun K C R hKl hnL => ?_)
  have hN := nl_of hnL
  subst hKl
  refine Y_end h ?_
  unfold M_X9_records
  refine x_aload_n C 0 0 dX9_records_0 rfl ?_
  refine fg_undos C 1 dX9_records_1 ?_
  refine x_bipush C 4 dX9_records_4 kb_40 ?_
  have hJ50 : ∀ (σ_50 : Wd), Y K (Zm V) (M_X9_records_J50 σ_50) (fun q => q = σ2) σ_50 50 [(0, .ref (zA (Zm V) 0))] [] := by
    intro σ_50
    unfold M_X9_records_J50
    refine x_iconst C 50 dX9_records_50 ki_0 ?_
    refine x_istore_n C 51 (L' := [(1, .int (0 : Int32)), (0, .ref (zA (Zm V) 0))]) dX9_records_51 rfl (hN _ (Nat.le_of_ble_eq_true rfl)) rfl ?_
    refine Y_sub [1, 0] rfl ?_
    refine x_loop 52 (fun s : Int32 × Wd => s.2) (fun s : Int32 × Wd => [(0, .ref (zA (Zm V) 0)), (1, .int s.1)]) (fun E52 hb52 hx52 s => ?_) FU ((0 : Int32), σ_50)
    obtain ⟨v1_52, s_52⟩ := s
    show Y K (Zm V) (M_X9_records_L52 v1_52 s_52) E52 s_52 52 [(0, .ref (zA (Zm V) 0)), (1, .int v1_52)] []
    unfold M_X9_records_L52
    refine x_iload_n C 52 1 dX9_records_52 rfl ?_
    refine x_sipush C 53 dX9_records_53 ks_770 ?_
    refine x_icmp_ge C 56 86 dX9_records_56 (by decide) (fun _ => ?_) (fun _ => ?_)
    · refine x_ex1 hx52 s_52 ?_
      refine x_aload_n C 86 0 dX9_records_86 rfl ?_
      refine x_dup C 87 dX9_records_87 rfl ?_
      refine fg_undos C 88 dX9_records_88 ?_
      refine x_iconst C 91 dX9_records_91 ki_1 ?_
      refine x_iadd C 92 dX9_records_92 ?_
      refine fp_undos C 93 dX9_records_93 (fun s_93 => ?_)
      refine x_aload_n C 96 0 dX9_records_96 rfl ?_
      refine Y_bnd1 (fun s_97 h97 => ?_)
      refine x_callVv C 97 [] [] rfl tw_1266 mv_X9_keepsRow (Nat.le_of_ble_eq_true rfl) (Nat.le_of_ble_eq_true rfl) (Nat.le_of_ble_eq_true rfl) (Nat.le_of_ble_eq_true rfl) (km_0 V _) rfl dX9_records_97 (c_X9_keepsRow V _ _  h97) ?_
      exact x_vret C R 100 dX9_records_100
    · refine x_aload_n C 59 0 dX9_records_59 rfl ?_
      refine fg_history C 60 dX9_records_60 ?_
      refine x_sipush C 63 dX9_records_63 ks_770 ?_
      refine x_aload_n C 66 0 dX9_records_66 rfl ?_
      refine fg_undos C 67 dX9_records_67 ?_
      refine x_imul C 70 dX9_records_70 ?_
      refine x_iload_n C 71 1 dX9_records_71 rfl ?_
      refine x_iadd C 72 dX9_records_72 ?_
      refine x_aload_n C 73 0 dX9_records_73 rfl ?_
      refine fg_now C 74 dX9_records_74 ?_
      refine x_iload_n C 77 1 dX9_records_77 rfl ?_
      refine x_iald C 78 (Nat.le_of_ble_eq_true rfl) (km_25 V _) dX9_records_78 (fun _ => ?_)
      refine x_iast C 79 (Nat.le_of_ble_eq_true rfl) (km_32 V) dX9_records_79 (fun _ s_79 => ?_)
      refine x_iinct C 80 1 (1 : Int32) (fun v1_80 => [(1, .int v1_80), (0, .ref (zA (Zm V) 0))]) dX9_records_80 rfl ki_1 (hN _ (Nat.le_of_ble_eq_true rfl)) (fun _ => rfl) (fun v1_80 => ?_)
      refine x_goto C 83 52 dX9_records_83 (by decide) ?_
      refine Y_sub [1, 0] rfl ?_
      exact x_back (v1_80, s_79) (hb52 (v1_80, s_79))
  refine x_icmp_ne C 6 50 dX9_records_6 (by decide) (fun _ => ?_) (fun _ => ?_)
  · exact hJ50 _
  · refine x_iconst C 9 dX9_records_9 ki_0 ?_
    refine x_istore_n C 10 (L' := [(1, .int (0 : Int32)), (0, .ref (zA (Zm V) 0))]) dX9_records_10 rfl (hN _ (Nat.le_of_ble_eq_true rfl)) rfl ?_
    refine Y_sub [1, 0] rfl ?_
    refine x_loop 11 (fun s : Int32 × Wd => s.2) (fun s : Int32 × Wd => [(0, .ref (zA (Zm V) 0)), (1, .int s.1)]) (fun E11 hb11 hx11 s => ?_) FU ((0 : Int32), σ)
    obtain ⟨v1_11, s_11⟩ := s
    show Y K (Zm V) (M_X9_records_L11 v1_11 s_11) E11 s_11 11 [(0, .ref (zA (Zm V) 0)), (1, .int v1_11)] []
    unfold M_X9_records_L11
    refine x_iload_n C 11 1 dX9_records_11 rfl ?_
    refine x_sipush C 12 dX9_records_12 ks_30030 ?_
    refine x_icmp_ge C 15 40 dX9_records_15 (by decide) (fun _ => ?_) (fun _ => ?_)
    · refine x_ex1 hx11 s_11 ?_
      refine x_aload_n C 40 0 dX9_records_40 rfl ?_
      refine x_dup C 41 dX9_records_41 rfl ?_
      refine fg_undos C 42 dX9_records_42 ?_
      refine x_iconst C 45 dX9_records_45 ki_1 ?_
      refine x_isub C 46 dX9_records_46 ?_
      refine fp_undos C 47 dX9_records_47 (fun s_47 => ?_)
      refine Y_sub [0] rfl ?_
      exact hJ50 _
    · refine x_aload_n C 18 0 dX9_records_18 rfl ?_
      refine fg_history C 19 dX9_records_19 ?_
      refine x_iload_n C 22 1 dX9_records_22 rfl ?_
      refine x_aload_n C 23 0 dX9_records_23 rfl ?_
      refine fg_history C 24 dX9_records_24 ?_
      refine x_iload_n C 27 1 dX9_records_27 rfl ?_
      refine x_sipush C 28 dX9_records_28 ks_770 ?_
      refine x_iadd C 31 dX9_records_31 ?_
      refine x_iald C 32 (Nat.le_of_ble_eq_true rfl) (km_32 V _) dX9_records_32 (fun _ => ?_)
      refine x_iast C 33 (Nat.le_of_ble_eq_true rfl) (km_32 V) dX9_records_33 (fun _ s_33 => ?_)
      refine x_iinct C 34 1 (1 : Int32) (fun v1_34 => [(1, .int v1_34), (0, .ref (zA (Zm V) 0))]) dX9_records_34 rfl ki_1 (hN _ (Nat.le_of_ble_eq_true rfl)) (fun _ => rfl) (fun v1_34 => ?_)
      refine x_goto C 37 11 dX9_records_37 (by decide) ?_
      refine Y_sub [1, 0] rfl ?_
      exact x_back (v1_34, s_33) (hb11 (v1_34, s_33))
def M_X9_refused (σ : Wd) (v1 : Int32) : Option (Int32 × Wd) :=
  chk (ib (((50 : Int32) + ((14 : Int32) * v1)) + (1 : Int32)) 770) (chk (ib (((50 : Int32) + ((14 : Int32) * v1)) + (1 : Int32)) 770) (lt (uI σ 26 (ix (((50 : Int32) + ((14 : Int32) * v1)) + (1 : Int32))) ((gI σ 26 (ix (((50 : Int32) + ((14 : Int32) * v1)) + (1 : Int32)))) + (1 : Int32))) fun s_17 => some ((-2 : Int32), s_17)))
set_option maxRecDepth 100000 in
set_option maxHeartbeats 4000000 in
theorem c_X9_refused (V : Vt) (l : Launch) (σ : Wd) (v1 : Int32) {r : Int32} {σ2 : Wd} (h : M_X9_refused σ v1 = some (r, σ2)) : Ct l (Zm V) yX9_refused cX9_refused 2 (some .int) 0 0 [.ref (zA (Zm V) 0), .int v1] σ (some (.int r)) σ2 := by
  refine Ct_intro (own := RX9) zm_ok (by decide +kernel) rfl (Nat.le_of_ble_eq_true rfl) [(0, .ref (zA (Zm V) 0)), (1, .int v1)] rfl (fun K C R hKl hnL => ?_)
  have hN := nl_of hnL
  subst hKl
  refine Y_end h ?_
  unfold M_X9_refused
  refine x_aload_n C 0 0 dX9_refused_0 rfl ?_
  refine fg_row C 1 dX9_refused_1 ?_
  refine x_bipush C 4 dX9_refused_4 kb_50 ?_
  refine x_bipush C 6 dX9_refused_6 kb_14 ?_
  refine x_iload_n C 8 1 dX9_refused_8 rfl ?_
  refine x_imul C 9 dX9_refused_9 ?_
  refine x_iadd C 10 dX9_refused_10 ?_
  refine x_iconst C 11 dX9_refused_11 ki_1 ?_
  refine x_iadd C 12 dX9_refused_12 ?_
  refine x_dup2 C 13 dX9_refused_13 rfl rfl ?_
  refine x_iald C 14 (Nat.le_of_ble_eq_true rfl) (km_26 V _) dX9_refused_14 (fun _ => ?_)
  refine x_iconst C 15 dX9_refused_15 ki_1 ?_
  refine x_iadd C 16 dX9_refused_16 ?_
  refine x_iast C 17 (Nat.le_of_ble_eq_true rfl) (km_26 V) dX9_refused_17 (fun _ s_17 => ?_)
  refine x_bipush C 18 dX9_refused_18 kb_m2 ?_
  exact x_iret2 C R 20 dX9_refused_20
def M_X9_made_J19 (σ : Wd) (v1 : Int32) (v2 : Int32) (v3 : Int32) (v4 : Int32) : Option (Int32 × Wd) :=
  chk (ib (0 : Int32) 770) (if (gI σ 26 (ix (0 : Int32))) ≠ (60 : Int32) then (bnd1 (M_X9_makes σ v1 v2 v3 v4) fun s_38 => chk (ib (0 : Int32) 770) (some (((gI s_38 26 (ix (0 : Int32))) - (1 : Int32)), s_38))) else (some ((-1 : Int32), σ)))
def M_X9_made (σ : Wd) (v1 : Int32) (v2 : Int32) (v3 : Int32) (v4 : Int32) : Option (Int32 × Wd) :=
  if v1 < 0 then (M_X9_made_J19 σ v1 v2 v3 v4) else (bnd1 (M_X9_mayMake σ v1 v2) fun r7 => if r7 ≠ 0 then (M_X9_made_J19 σ v1 v2 v3 v4) else (bnd2 (M_X9_refused σ v1) fun r15 s_15 => some (r15, s_15)))
set_option maxRecDepth 100000 in
set_option maxHeartbeats 4000000 in
theorem c_X9_made (V : Vt) (l : Launch) (σ : Wd) (v1 : Int32) (v2 : Int32) (v3 : Int32) (v4 : Int32) {r : Int32} {σ2 : Wd} (h : M_X9_made σ v1 v2 v3 v4 = some (r, σ2)) : Ct l (Zm V) yX9_made cX9_made 5 (some .int) 5 118 [.ref (zA (Zm V) 0), .int v1, .int v2, .int v3, .int v4] σ (some (.int r)) σ2 := by
  refine Ct_intro (own := RX9) zm_ok (by decide +kernel) rfl (Nat.le_of_ble_eq_true rfl) [(0, .ref (zA (Zm V) 0)), (1, .int v1), (2, .int v2), (3, .int v3), (4, .int v4)] rfl (fun K C R hKl hnL => ?_)
  have hN := nl_of hnL
  subst hKl
  refine Y_end h ?_
  unfold M_X9_made
  refine x_iload_n C 0 1 dX9_made_0 rfl ?_
  have hJ19 : ∀ (σ_19 : Wd) (v1_19 : Int32) (v2_19 : Int32) (v3_19 : Int32) (v4_19 : Int32), Y K (Zm V) (M_X9_made_J19 σ_19 v1_19 v2_19 v3_19 v4_19) (fun q => q = (r, σ2)) σ_19 19 [(0, .ref (zA (Zm V) 0)), (1, .int v1_19), (2, .int v2_19), (3, .int v3_19), (4, .int v4_19)] [] := by
    intro σ_19 v1_19 v2_19 v3_19 v4_19
    unfold M_X9_made_J19
    refine x_aload_n C 19 0 dX9_made_19 rfl ?_
    refine fg_row C 20 dX9_made_20 ?_
    refine x_iconst C 23 dX9_made_23 ki_0 ?_
    refine x_iald C 24 (Nat.le_of_ble_eq_true rfl) (km_26 V _) dX9_made_24 (fun _ => ?_)
    refine x_bipush C 25 dX9_made_25 kb_60 ?_
    refine x_icmp_ne C 27 32 dX9_made_27 (by decide) (fun _ => ?_) (fun _ => ?_)
    · refine x_aload_n C 32 0 dX9_made_32 rfl ?_
      refine x_iload_n C 33 1 dX9_made_33 rfl ?_
      refine x_iload_n C 34 2 dX9_made_34 rfl ?_
      refine x_iload_n C 35 3 dX9_made_35 rfl ?_
      refine x_iload C 36 4 dX9_made_36 rfl ?_
      refine Y_bnd1 (fun s_38 h38 => ?_)
      refine x_callVv C 38 [.int v1_19, .int v2_19, .int v3_19, .int v4_19] [] rfl tw_1619 mv_X9_makes (Nat.le_of_ble_eq_true rfl) (Nat.le_of_ble_eq_true rfl) (Nat.le_of_ble_eq_true rfl) (Nat.le_of_ble_eq_true rfl) (km_0 V _) rfl dX9_made_38 (c_X9_makes V _ _ _ _ _ _ h38) ?_
      refine x_aload_n C 41 0 dX9_made_41 rfl ?_
      refine fg_row C 42 dX9_made_42 ?_
      refine x_iconst C 45 dX9_made_45 ki_0 ?_
      refine x_iald C 46 (Nat.le_of_ble_eq_true rfl) (km_26 V _) dX9_made_46 (fun _ => ?_)
      refine x_iconst C 47 dX9_made_47 ki_1 ?_
      refine x_isub C 48 dX9_made_48 ?_
      exact x_iret2 C R 49 dX9_made_49
    · refine x_iconst C 30 dX9_made_30 ki_m1 ?_
      exact x_iret2 C R 31 dX9_made_31
  refine x_if_lt C 1 19 dX9_made_1 (by decide) (fun _ => ?_) (fun _ => ?_)
  · exact hJ19 _ _ _ _ _
  · refine x_aload_n C 4 0 dX9_made_4 rfl ?_
    refine x_iload_n C 5 1 dX9_made_5 rfl ?_
    refine x_iload_n C 6 2 dX9_made_6 rfl ?_
    refine Y_bnd1 (fun r7 h7 => ?_)
    refine x_callVi C 7 [.int v1, .int v2] [] rfl tw_1595 mv_X9_mayMake (Nat.le_of_ble_eq_true rfl) (Nat.le_of_ble_eq_true rfl) (Nat.le_of_ble_eq_true rfl) (Nat.le_of_ble_eq_true rfl) (km_0 V _) rfl dX9_made_7 (c_X9_mayMake V _ _ _ _ h7) ?_
    refine x_if_ne C 10 19 dX9_made_10 (by decide) (fun _ => ?_) (fun _ => ?_)
    · exact hJ19 _ _ _ _ _
    · refine x_aload_n C 13 0 dX9_made_13 rfl ?_
      refine x_iload_n C 14 1 dX9_made_14 rfl ?_
      refine Y_bnd2 (fun r15 s_15 h15 => ?_)
      refine x_callVi C 15 [.int v1] [] rfl tw_1615 mv_X9_refused (Nat.le_of_ble_eq_true rfl) (Nat.le_of_ble_eq_true rfl) (Nat.le_of_ble_eq_true rfl) (Nat.le_of_ble_eq_true rfl) (km_0 V _) rfl dX9_made_15 (c_X9_refused V _ _ _ h15) ?_
      exact x_iret2 C R 18 dX9_made_18
def M_X9_make_J12 (σ : Wd) (v1 : Int32) (v2 : Int32) (v3 : Int32) (v4 : Int32) : Option (Int32 × Wd) :=
  bnd1 (M_X9_isCopy σ v2) fun r14 => if r14 = 0 then (some ((-1 : Int32), σ)) else (chk (ib (gI σ 0 18) 2) (bnd1 (M_X9_in v3 (0 : Int32) ((gI σ 14 (ix (gI σ 0 18))) - (1 : Int32))) fun r33 => if r33 ≠ 0 then (bnd1 (M_X9_copiesNow σ) fun s_42 => bnd1 (M_X9_opens s_42 v2) fun s_47 => bnd2 (M_X9_made s_47 v1 v2 v3 v4) fun r56 s_56 => bnd1 (M_X9_shuts s_56 v2) fun s_63 => bnd1 (M_X9_records s_63) fun s_67 => some (r56, s_67)) else (some ((-1 : Int32), σ))))
def M_X9_make (σ : Wd) (v1 : Int32) (v2 : Int32) (v3 : Int32) (v4 : Int32) : Option (Int32 × Wd) :=
  if v1 = (-1 : Int32) then (M_X9_make_J12 σ v1 v2 v3 v4) else (bnd1 (M_X9_isSession v1) fun r6 => if r6 = 0 then (some ((-1 : Int32), σ)) else (M_X9_make_J12 σ v1 v2 v3 v4))
set_option maxRecDepth 100000 in
set_option maxHeartbeats 4000000 in
theorem c_X9_make (V : Vt) (l : Launch) (σ : Wd) (v1 : Int32) (v2 : Int32) (v3 : Int32) (v4 : Int32) {r : Int32} {σ2 : Wd} (h : M_X9_make σ v1 v2 v3 v4 = some (r, σ2)) : Ct l (Zm V) yX9_make cX9_make 6 (some .int) 6 142 [.ref (zA (Zm V) 0), .int v1, .int v2, .int v3, .int v4] σ (some (.int r)) σ2 := by
  refine Ct_intro (own := RX9) zm_ok (by decide +kernel) rfl (Nat.le_of_ble_eq_true rfl) [(0, .ref (zA (Zm V) 0)), (1, .int v1), (2, .int v2), (3, .int v3), (4, .int v4)] rfl (fun K C R hKl hnL => ?_)
  have hN := nl_of hnL
  subst hKl
  refine Y_end h ?_
  unfold M_X9_make
  refine x_iload_n C 0 1 dX9_make_0 rfl ?_
  refine x_iconst C 1 dX9_make_1 ki_m1 ?_
  have hJ12 : ∀ (σ_12 : Wd) (v1_12 : Int32) (v2_12 : Int32) (v3_12 : Int32) (v4_12 : Int32), Y K (Zm V) (M_X9_make_J12 σ_12 v1_12 v2_12 v3_12 v4_12) (fun q => q = (r, σ2)) σ_12 12 [(0, .ref (zA (Zm V) 0)), (1, .int v1_12), (2, .int v2_12), (3, .int v3_12), (4, .int v4_12)] [] := by
    intro σ_12 v1_12 v2_12 v3_12 v4_12
    unfold M_X9_make_J12
    refine x_aload_n C 12 0 dX9_make_12 rfl ?_
    refine x_iload_n C 13 2 dX9_make_13 rfl ?_
    refine Y_bnd1 (fun r14 h14 => ?_)
    refine x_callVi C 14 [.int v2_12] [] rfl tw_1575 mv_X9_isCopy (Nat.le_of_ble_eq_true rfl) (Nat.le_of_ble_eq_true rfl) (Nat.le_of_ble_eq_true rfl) (Nat.le_of_ble_eq_true rfl) (km_0 V _) rfl dX9_make_14 (c_X9_isCopy V _ _ _ h14) ?_
    refine x_if_eq C 17 39 dX9_make_17 (by decide) (fun _ => ?_) (fun _ => ?_)
    · refine x_iconst C 39 dX9_make_39 ki_m1 ?_
      exact x_iret2 C R 40 dX9_make_40
    · refine x_iload_n C 20 3 dX9_make_20 rfl ?_
      refine x_iconst C 21 dX9_make_21 ki_0 ?_
      refine x_aload_n C 22 0 dX9_make_22 rfl ?_
      refine fg_forms C 23 dX9_make_23 ?_
      refine x_aload_n C 26 0 dX9_make_26 rfl ?_
      refine fg_live C 27 dX9_make_27 ?_
      refine x_iald C 30 (Nat.le_of_ble_eq_true rfl) (km_14 V _) dX9_make_30 (fun _ => ?_)
      refine x_iconst C 31 dX9_make_31 ki_1 ?_
      refine x_isub C 32 dX9_make_32 ?_
      refine Y_bnd1 (fun r33 h33 => ?_)
      refine x_callSi C 33 [.int v3_12, .int (0 : Int32), .int ((gI σ_12 14 (ix (gI σ_12 0 18))) - (1 : Int32))] [] rfl tw_1572 ms_X9_in (Nat.le_of_ble_eq_true rfl) (Nat.le_of_ble_eq_true rfl) (Nat.le_of_ble_eq_true rfl) dX9_make_33 (c_X9_in V _ _ _ _ _ h33) ?_
      refine x_if_ne C 36 41 dX9_make_36 (by decide) (fun _ => ?_) (fun _ => ?_)
      · refine x_aload_n C 41 0 dX9_make_41 rfl ?_
        refine Y_bnd1 (fun s_42 h42 => ?_)
        refine x_callVv C 42 [] [] rfl tw_1579 mv_X9_copiesNow (Nat.le_of_ble_eq_true rfl) (Nat.le_of_ble_eq_true rfl) (Nat.le_of_ble_eq_true rfl) (Nat.le_of_ble_eq_true rfl) (km_0 V _) rfl dX9_make_42 (c_X9_copiesNow V _ _  h42) ?_
        refine x_aload_n C 45 0 dX9_make_45 rfl ?_
        refine x_iload_n C 46 2 dX9_make_46 rfl ?_
        refine Y_bnd1 (fun s_47 h47 => ?_)
        refine x_callVv C 47 [.int v2_12] [] rfl tw_1583 mv_X9_opens (Nat.le_of_ble_eq_true rfl) (Nat.le_of_ble_eq_true rfl) (Nat.le_of_ble_eq_true rfl) (Nat.le_of_ble_eq_true rfl) (km_0 V _) rfl dX9_make_47 (c_X9_opens V _ _ _ h47) ?_
        refine x_aload_n C 50 0 dX9_make_50 rfl ?_
        refine x_iload_n C 51 1 dX9_make_51 rfl ?_
        refine x_iload_n C 52 2 dX9_make_52 rfl ?_
        refine x_iload_n C 53 3 dX9_make_53 rfl ?_
        refine x_iload C 54 4 dX9_make_54 rfl ?_
        refine Y_bnd2 (fun r56 s_56 h56 => ?_)
        refine x_callVi C 56 [.int v1_12, .int v2_12, .int v3_12, .int v4_12] [] rfl tw_1591 mv_X9_made (Nat.le_of_ble_eq_true rfl) (Nat.le_of_ble_eq_true rfl) (Nat.le_of_ble_eq_true rfl) (Nat.le_of_ble_eq_true rfl) (km_0 V _) rfl dX9_make_56 (c_X9_made V _ _ _ _ _ _ h56) ?_
        refine x_istore C 59 (L' := [(5, .int r56), (0, .ref (zA (Zm V) 0)), (1, .int v1_12), (2, .int v2_12), (3, .int v3_12), (4, .int v4_12)]) dX9_make_59 (hN _ (Nat.le_of_ble_eq_true rfl)) rfl ?_
        refine x_aload_n C 61 1 dX9_make_61 rfl ?_
        refine x_iload_n C 62 3 dX9_make_62 rfl ?_
        refine Y_bnd1 (fun s_63 h63 => ?_)
        refine x_callVv C 63 [.int v2_12] [] rfl tw_1647 mv_X9_shuts (Nat.le_of_ble_eq_true rfl) (Nat.le_of_ble_eq_true rfl) (Nat.le_of_ble_eq_true rfl) (Nat.le_of_ble_eq_true rfl) (km_0 V _) rfl dX9_make_63 (c_X9_shuts V _ _ _ h63) ?_
        refine x_aload_n C 66 1 dX9_make_66 rfl ?_
        refine Y_bnd1 (fun s_67 h67 => ?_)
        refine x_callVv C 67 [] [] rfl tw_1651 mv_X9_records (Nat.le_of_ble_eq_true rfl) (Nat.le_of_ble_eq_true rfl) (Nat.le_of_ble_eq_true rfl) (Nat.le_of_ble_eq_true rfl) (km_0 V _) rfl dX9_make_67 (c_X9_records V _ _  h67) ?_
        refine x_iload C 70 0 dX9_make_70 rfl ?_
        exact x_iret2 C R 72 dX9_make_72
      · refine x_iconst C 39 dX9_make_39 ki_m1 ?_
        exact x_iret2 C R 40 dX9_make_40
  refine x_icmp_eq C 2 12 dX9_make_2 (by decide) (fun _ => ?_) (fun _ => ?_)
  · exact hJ12 _ _ _ _ _
  · refine x_iload_n C 5 1 dX9_make_5 rfl ?_
    refine Y_bnd1 (fun r6 h6 => ?_)
    refine x_callSi C 6 [.int v1] [] rfl tw_1569 ms_X9_isSession (Nat.le_of_ble_eq_true rfl) (Nat.le_of_ble_eq_true rfl) (Nat.le_of_ble_eq_true rfl) dX9_make_6 (c_X9_isSession V _ _ _ h6) ?_
    refine x_if_eq C 9 39 dX9_make_9 (by decide) (fun _ => ?_) (fun _ => ?_)
    · refine x_iconst C 39 dX9_make_39 ki_m1 ?_
      exact x_iret2 C R 40 dX9_make_40
    · exact hJ12 _ _ _ _ _
def M_X9_asked_L29 (v2 : Int32) (v3 : Int32) (v4 : Int32) (v5 : Int32) (σ : Wd) : Option ((Int32 × Wd) ⊕ (Wd)) :=
  chk (ib (gI σ 0 18) 2) (if (gI σ 10 (ix (gI σ 0 18))) ≤ v5 then (some (.inr σ)) else (bnd1 (M_X9_vectorOf σ v2 v5) fun r47 => chk (ib ((v4 + (3 : Int32)) + v5) 770) (if r47 ≤ (gI σ 26 (ix ((v4 + (3 : Int32)) + v5))) then (lt (v5 + (1 : Int32)) fun v5_83 => some (.inl (v5_83, σ))) else (chk (ib ((v4 + (3 : Int32)) + v5) 770) (lt (uI σ 26 (ix ((v4 + (3 : Int32)) + v5)) r47) fun s_82 => lt (v5 + (1 : Int32)) fun v5_83 => some (.inl (v5_83, s_82)))))))
def M_X9_asked (σ : Wd) (v1 : Int32) (v2 : Int32) (v3 : Int32) : Option (Int32 × Wd) :=
  bnd1 (M_X9_mayAsk σ v1 v2) fun r3 => if r3 ≠ 0 then (lt ((50 : Int32) + ((14 : Int32) * v1)) fun v4_24 => bnd1 (iter (fun s : Int32 × Wd => M_X9_asked_L29 v2 v3 v4_24 s.1 s.2) FU ((0 : Int32), σ)) (un1 fun sx_29 => (bnd1 (M_X9_doesAll sx_29 v2) fun s_91 => chk (ib v3 6) (chk (ib (v4_24 + (2 : Int32)) 770) (lt (uI s_91 26 (ix (v4_24 + (2 : Int32))) (gI s_91 29 (ix v3))) fun s_108 => some ((1 : Int32), s_108)))))) else (bnd2 (M_X9_refused σ v1) fun r11 s_11 => some ((0 : Int32), s_11))
set_option maxRecDepth 100000 in
set_option maxHeartbeats 4000000 in
theorem c_X9_asked (V : Vt) (l : Launch) (σ : Wd) (v1 : Int32) (v2 : Int32) (v3 : Int32) {r : Int32} {σ2 : Wd} (h : M_X9_asked σ v1 v2 v3 = some (r, σ2)) : Ct l (Zm V) yX9_asked cX9_asked 7 (some .int) 5 121 [.ref (zA (Zm V) 0), .int v1, .int v2, .int v3] σ (some (.int r)) σ2 := by
  refine Ct_intro (own := RX9) zm_ok (by decide +kernel) rfl (Nat.le_of_ble_eq_true rfl) [(0, .ref (zA (Zm V) 0)), (1, .int v1), (2, .int v2), (3, .int v3)] rfl (fun K C R hKl hnL => ?_)
  have hN := nl_of hnL
  subst hKl
  refine Y_end h ?_
  unfold M_X9_asked
  refine x_aload_n C 0 0 dX9_asked_0 rfl ?_
  refine x_iload_n C 1 1 dX9_asked_1 rfl ?_
  refine x_iload_n C 2 2 dX9_asked_2 rfl ?_
  refine Y_bnd1 (fun r3 h3 => ?_)
  refine x_callVi C 3 [.int v1, .int v2] [] rfl tw_1667 mv_X9_mayAsk (Nat.le_of_ble_eq_true rfl) (Nat.le_of_ble_eq_true rfl) (Nat.le_of_ble_eq_true rfl) (Nat.le_of_ble_eq_true rfl) (km_0 V _) rfl dX9_asked_3 (c_X9_mayAsk V _ _ _ _ h3) ?_
  refine x_if_ne C 6 17 dX9_asked_6 (by decide) (fun _ => ?_) (fun _ => ?_)
  · refine x_bipush C 17 dX9_asked_17 kb_50 ?_
    refine x_bipush C 19 dX9_asked_19 kb_14 ?_
    refine x_iload_n C 21 1 dX9_asked_21 rfl ?_
    refine x_imul C 22 dX9_asked_22 ?_
    refine x_iadd C 23 dX9_asked_23 ?_
    refine x_istoret C 24 (fun v4_24 => [(4, .int v4_24), (0, .ref (zA (Zm V) 0)), (1, .int v1), (2, .int v2), (3, .int v3)]) dX9_asked_24 (hN _ (Nat.le_of_ble_eq_true rfl)) (fun _ => rfl) (fun v4_24 => ?_)
    refine x_iconst C 26 dX9_asked_26 ki_0 ?_
    refine x_istore C 27 (L' := [(5, .int (0 : Int32)), (4, .int v4_24), (0, .ref (zA (Zm V) 0)), (1, .int v1), (2, .int v2), (3, .int v3)]) dX9_asked_27 (hN _ (Nat.le_of_ble_eq_true rfl)) rfl ?_
    refine Y_sub [2, 4, 5, 1, 0] rfl ?_
    refine x_loop 29 (fun s : Int32 × Wd => s.2) (fun s : Int32 × Wd => [(0, .ref (zA (Zm V) 0)), (2, .int v2), (3, .int v3), (4, .int v4_24), (5, .int s.1)]) (fun E29 hb29 hx29 s => ?_) FU ((0 : Int32), σ)
    obtain ⟨v5_29, s_29⟩ := s
    show Y K (Zm V) (M_X9_asked_L29 v2 v3 v4_24 v5_29 s_29) E29 s_29 29 [(0, .ref (zA (Zm V) 0)), (2, .int v2), (3, .int v3), (4, .int v4_24), (5, .int v5_29)] []
    unfold M_X9_asked_L29
    refine x_iload C 29 4 dX9_asked_29 rfl ?_
    refine x_aload_n C 31 0 dX9_asked_31 rfl ?_
    refine fg_copies C 32 dX9_asked_32 ?_
    refine x_aload_n C 35 0 dX9_asked_35 rfl ?_
    refine fg_live C 36 dX9_asked_36 ?_
    refine x_iald C 39 (Nat.le_of_ble_eq_true rfl) (km_10 V _) dX9_asked_39 (fun _ => ?_)
    refine x_icmp_ge C 40 89 dX9_asked_40 (by decide) (fun _ => ?_) (fun _ => ?_)
    · refine x_ex1 hx29 s_29 ?_
      refine x_aload_n C 89 0 dX9_asked_89 rfl ?_
      refine x_iload_n C 90 1 dX9_asked_90 rfl ?_
      refine Y_bnd1 (fun s_91 h91 => ?_)
      refine x_callVv C 91 [.int v2] [] rfl tw_1671 mv_X9_doesAll (Nat.le_of_ble_eq_true rfl) (Nat.le_of_ble_eq_true rfl) (Nat.le_of_ble_eq_true rfl) (Nat.le_of_ble_eq_true rfl) (km_0 V _) rfl dX9_asked_91 (c_X9_doesAll V _ _ _ h91) ?_
      refine x_aload_n C 94 0 dX9_asked_94 rfl ?_
      refine fg_row C 95 dX9_asked_95 ?_
      refine x_iload C 98 3 dX9_asked_98 rfl ?_
      refine x_iconst C 100 dX9_asked_100 ki_2 ?_
      refine x_iadd C 101 dX9_asked_101 ?_
      refine x_aload_n C 102 0 dX9_asked_102 rfl ?_
      refine fg_cellNow C 103 dX9_asked_103 ?_
      refine x_iload_n C 106 2 dX9_asked_106 rfl ?_
      refine x_iald C 107 (Nat.le_of_ble_eq_true rfl) (km_29 V _) dX9_asked_107 (fun _ => ?_)
      refine x_iast C 108 (Nat.le_of_ble_eq_true rfl) (km_26 V) dX9_asked_108 (fun _ s_108 => ?_)
      refine x_iconst C 109 dX9_asked_109 ki_1 ?_
      exact x_iret2 C R 110 dX9_asked_110
    · refine x_aload_n C 43 0 dX9_asked_43 rfl ?_
      refine x_iload_n C 44 1 dX9_asked_44 rfl ?_
      refine x_iload C 45 4 dX9_asked_45 rfl ?_
      refine Y_bnd1 (fun r47 h47 => ?_)
      refine x_callVi C 47 [.int v2, .int v5_29] [] rfl tw_1603 mv_X9_vectorOf (Nat.le_of_ble_eq_true rfl) (Nat.le_of_ble_eq_true rfl) (Nat.le_of_ble_eq_true rfl) (Nat.le_of_ble_eq_true rfl) (km_0 V _) rfl dX9_asked_47 (c_X9_vectorOf V _ _ _ _ h47) ?_
      refine x_istore C 50 (L' := [(6, .int r47), (0, .ref (zA (Zm V) 0)), (2, .int v2), (3, .int v3), (4, .int v4_24), (5, .int v5_29)]) dX9_asked_50 (hN _ (Nat.le_of_ble_eq_true rfl)) rfl ?_
      refine x_iload C 52 0 dX9_asked_52 rfl ?_
      refine x_aload_n C 54 1 dX9_asked_54 rfl ?_
      refine fg_row C 55 dX9_asked_55 ?_
      refine x_iload C 58 4 dX9_asked_58 rfl ?_
      refine x_iconst C 60 dX9_asked_60 ki_3 ?_
      refine x_iadd C 61 dX9_asked_61 ?_
      refine x_iload C 62 5 dX9_asked_62 rfl ?_
      refine x_iadd C 64 dX9_asked_64 ?_
      refine x_iald C 65 (Nat.le_of_ble_eq_true rfl) (km_26 V _) dX9_asked_65 (fun _ => ?_)
      refine x_icmp_le C 66 83 dX9_asked_66 (by decide) (fun _ => ?_) (fun _ => ?_)
      · refine x_iinct C 83 5 (1 : Int32) (fun v5_83 => [(5, .int v5_83), (6, .int r47), (0, .ref (zA (Zm V) 0)), (2, .int v2), (3, .int v3), (4, .int v4_24)]) dX9_asked_83 rfl ki_1 (hN _ (Nat.le_of_ble_eq_true rfl)) (fun _ => rfl) (fun v5_83 => ?_)
        refine x_goto C 86 29 dX9_asked_86 (by decide) ?_
        refine Y_sub [2, 3, 4, 5, 0] rfl ?_
        exact x_back (v5_83, s_29) (hb29 (v5_83, s_29))
      · refine x_aload_n C 69 1 dX9_asked_69 rfl ?_
        refine fg_row C 70 dX9_asked_70 ?_
        refine x_iload C 73 4 dX9_asked_73 rfl ?_
        refine x_iconst C 75 dX9_asked_75 ki_3 ?_
        refine x_iadd C 76 dX9_asked_76 ?_
        refine x_iload C 77 5 dX9_asked_77 rfl ?_
        refine x_iadd C 79 dX9_asked_79 ?_
        refine x_iload C 80 0 dX9_asked_80 rfl ?_
        refine x_iast C 82 (Nat.le_of_ble_eq_true rfl) (km_26 V) dX9_asked_82 (fun _ s_82 => ?_)
        refine x_iinct C 83 5 (1 : Int32) (fun v5_83 => [(5, .int v5_83), (6, .int r47), (0, .ref (zA (Zm V) 0)), (2, .int v2), (3, .int v3), (4, .int v4_24)]) dX9_asked_83 rfl ki_1 (hN _ (Nat.le_of_ble_eq_true rfl)) (fun _ => rfl) (fun v5_83 => ?_)
        refine x_goto C 86 29 dX9_asked_86 (by decide) ?_
        refine Y_sub [2, 3, 4, 5, 0] rfl ?_
        exact x_back (v5_83, s_82) (hb29 (v5_83, s_82))
  · refine x_aload_n C 9 0 dX9_asked_9 rfl ?_
    refine x_iload_n C 10 1 dX9_asked_10 rfl ?_
    refine Y_bnd2 (fun r11 s_11 h11 => ?_)
    refine x_callVi C 11 [.int v1] [] rfl tw_1615 mv_X9_refused (Nat.le_of_ble_eq_true rfl) (Nat.le_of_ble_eq_true rfl) (Nat.le_of_ble_eq_true rfl) (Nat.le_of_ble_eq_true rfl) (km_0 V _) rfl dX9_asked_11 (c_X9_refused V _ _ _ h11) ?_
    refine x_pop C 14 dX9_asked_14 rfl ?_
    refine x_iconst C 15 dX9_asked_15 ki_0 ?_
    exact x_iret2 C R 16 dX9_asked_16
def M_X9_ask (σ : Wd) (v1 : Int32) (v2 : Int32) (v3 : Int32) : Option (Int32 × Wd) :=
  bnd1 (M_X9_isSession v1) fun r1 => if r1 = 0 then (some ((-1 : Int32), σ)) else (bnd1 (M_X9_isCopy σ v2) fun r9 => if r9 = 0 then (some ((-1 : Int32), σ)) else (bnd1 (M_X9_isCell σ v3) fun r17 => if r17 ≠ 0 then (bnd1 (M_X9_copiesNow σ) fun s_26 => bnd1 (M_X9_opens s_26 v2) fun s_31 => bnd2 (M_X9_asked s_31 v1 v2 v3) fun r38 s_38 => bnd1 (M_X9_shuts s_38 v2) fun s_45 => bnd1 (M_X9_records s_45) fun s_49 => some (r38, s_49)) else (some ((-1 : Int32), σ))))
set_option maxRecDepth 100000 in
set_option maxHeartbeats 4000000 in
theorem c_X9_ask (V : Vt) (l : Launch) (σ : Wd) (v1 : Int32) (v2 : Int32) (v3 : Int32) {r : Int32} {σ2 : Wd} (h : M_X9_ask σ v1 v2 v3 = some (r, σ2)) : Ct l (Zm V) yX9_ask cX9_ask 5 (some .int) 6 147 [.ref (zA (Zm V) 0), .int v1, .int v2, .int v3] σ (some (.int r)) σ2 := by
  refine Ct_intro (own := RX9) zm_ok (by decide +kernel) rfl (Nat.le_of_ble_eq_true rfl) [(0, .ref (zA (Zm V) 0)), (1, .int v1), (2, .int v2), (3, .int v3)] rfl (fun K C R hKl hnL => ?_)
  have hN := nl_of hnL
  subst hKl
  refine Y_end h ?_
  unfold M_X9_ask
  refine x_iload_n C 0 1 dX9_ask_0 rfl ?_
  refine Y_bnd1 (fun r1 h1 => ?_)
  refine x_callSi C 1 [.int v1] [] rfl tw_1569 ms_X9_isSession (Nat.le_of_ble_eq_true rfl) (Nat.le_of_ble_eq_true rfl) (Nat.le_of_ble_eq_true rfl) dX9_ask_1 (c_X9_isSession V _ _ _ h1) ?_
  refine x_if_eq C 4 23 dX9_ask_4 (by decide) (fun _ => ?_) (fun _ => ?_)
  · refine x_iconst C 23 dX9_ask_23 ki_m1 ?_
    exact x_iret2 C R 24 dX9_ask_24
  · refine x_aload_n C 7 0 dX9_ask_7 rfl ?_
    refine x_iload_n C 8 2 dX9_ask_8 rfl ?_
    refine Y_bnd1 (fun r9 h9 => ?_)
    refine x_callVi C 9 [.int v2] [] rfl tw_1575 mv_X9_isCopy (Nat.le_of_ble_eq_true rfl) (Nat.le_of_ble_eq_true rfl) (Nat.le_of_ble_eq_true rfl) (Nat.le_of_ble_eq_true rfl) (km_0 V _) rfl dX9_ask_9 (c_X9_isCopy V _ _ _ h9) ?_
    refine x_if_eq C 12 23 dX9_ask_12 (by decide) (fun _ => ?_) (fun _ => ?_)
    · refine x_iconst C 23 dX9_ask_23 ki_m1 ?_
      exact x_iret2 C R 24 dX9_ask_24
    · refine x_aload_n C 15 0 dX9_ask_15 rfl ?_
      refine x_iload_n C 16 3 dX9_ask_16 rfl ?_
      refine Y_bnd1 (fun r17 h17 => ?_)
      refine x_callVi C 17 [.int v3] [] rfl tw_1659 mv_X9_isCell (Nat.le_of_ble_eq_true rfl) (Nat.le_of_ble_eq_true rfl) (Nat.le_of_ble_eq_true rfl) (Nat.le_of_ble_eq_true rfl) (km_0 V _) rfl dX9_ask_17 (c_X9_isCell V _ _ _ h17) ?_
      refine x_if_ne C 20 25 dX9_ask_20 (by decide) (fun _ => ?_) (fun _ => ?_)
      · refine x_aload_n C 25 0 dX9_ask_25 rfl ?_
        refine Y_bnd1 (fun s_26 h26 => ?_)
        refine x_callVv C 26 [] [] rfl tw_1579 mv_X9_copiesNow (Nat.le_of_ble_eq_true rfl) (Nat.le_of_ble_eq_true rfl) (Nat.le_of_ble_eq_true rfl) (Nat.le_of_ble_eq_true rfl) (km_0 V _) rfl dX9_ask_26 (c_X9_copiesNow V _ _  h26) ?_
        refine x_aload_n C 29 0 dX9_ask_29 rfl ?_
        refine x_iload_n C 30 2 dX9_ask_30 rfl ?_
        refine Y_bnd1 (fun s_31 h31 => ?_)
        refine x_callVv C 31 [.int v2] [] rfl tw_1583 mv_X9_opens (Nat.le_of_ble_eq_true rfl) (Nat.le_of_ble_eq_true rfl) (Nat.le_of_ble_eq_true rfl) (Nat.le_of_ble_eq_true rfl) (km_0 V _) rfl dX9_ask_31 (c_X9_opens V _ _ _ h31) ?_
        refine x_aload_n C 34 0 dX9_ask_34 rfl ?_
        refine x_iload_n C 35 1 dX9_ask_35 rfl ?_
        refine x_iload_n C 36 2 dX9_ask_36 rfl ?_
        refine x_iload_n C 37 3 dX9_ask_37 rfl ?_
        refine Y_bnd2 (fun r38 s_38 h38 => ?_)
        refine x_callVi C 38 [.int v1, .int v2, .int v3] [] rfl tw_1663 mv_X9_asked (Nat.le_of_ble_eq_true rfl) (Nat.le_of_ble_eq_true rfl) (Nat.le_of_ble_eq_true rfl) (Nat.le_of_ble_eq_true rfl) (km_0 V _) rfl dX9_ask_38 (c_X9_asked V _ _ _ _ _ h38) ?_
        refine x_istore C 41 (L' := [(4, .int r38), (0, .ref (zA (Zm V) 0)), (1, .int v1), (2, .int v2), (3, .int v3)]) dX9_ask_41 (hN _ (Nat.le_of_ble_eq_true rfl)) rfl ?_
        refine x_aload_n C 43 1 dX9_ask_43 rfl ?_
        refine x_iload_n C 44 3 dX9_ask_44 rfl ?_
        refine Y_bnd1 (fun s_45 h45 => ?_)
        refine x_callVv C 45 [.int v2] [] rfl tw_1647 mv_X9_shuts (Nat.le_of_ble_eq_true rfl) (Nat.le_of_ble_eq_true rfl) (Nat.le_of_ble_eq_true rfl) (Nat.le_of_ble_eq_true rfl) (km_0 V _) rfl dX9_ask_45 (c_X9_shuts V _ _ _ h45) ?_
        refine x_aload_n C 48 1 dX9_ask_48 rfl ?_
        refine Y_bnd1 (fun s_49 h49 => ?_)
        refine x_callVv C 49 [] [] rfl tw_1651 mv_X9_records (Nat.le_of_ble_eq_true rfl) (Nat.le_of_ble_eq_true rfl) (Nat.le_of_ble_eq_true rfl) (Nat.le_of_ble_eq_true rfl) (km_0 V _) rfl dX9_ask_49 (c_X9_records V _ _  h49) ?_
        refine x_iload C 52 0 dX9_ask_52 rfl ?_
        exact x_iret2 C R 54 dX9_ask_54
      · refine x_iconst C 23 dX9_ask_23 ki_m1 ?_
        exact x_iret2 C R 24 dX9_ask_24
def M_X9_got (σ : Wd) (v1 : Int32) : Option Int32 :=
  bnd1 (M_X9_isSession v1) fun r1 => if r1 = 0 then (some (0 : Int32)) else (chk (ib (((50 : Int32) + ((14 : Int32) * v1)) + (2 : Int32)) 770) (some (gI σ 25 (ix (((50 : Int32) + ((14 : Int32) * v1)) + (2 : Int32))))))
set_option maxRecDepth 100000 in
set_option maxHeartbeats 4000000 in
theorem c_X9_got (V : Vt) (l : Launch) (σ : Wd) (v1 : Int32) {r : Int32} (h : M_X9_got σ v1 = some r) : Ct l (Zm V) yX9_got cX9_got 2 (some .int) 2 42 [.ref (zA (Zm V) 0), .int v1] σ (some (.int r)) σ := by
  refine Ct_intro (own := RX9) zm_ok (by decide +kernel) rfl (Nat.le_of_ble_eq_true rfl) [(0, .ref (zA (Zm V) 0)), (1, .int v1)] rfl (fun K C R hKl hnL => ?_)
  have hN := nl_of hnL
  subst hKl
  refine Y_end h ?_
  unfold M_X9_got
  refine x_iload_n C 0 1 dX9_got_0 rfl ?_
  refine Y_bnd1 (fun r1 h1 => ?_)
  refine x_callSi C 1 [.int v1] [] rfl tw_1569 ms_X9_isSession (Nat.le_of_ble_eq_true rfl) (Nat.le_of_ble_eq_true rfl) (Nat.le_of_ble_eq_true rfl) dX9_got_1 (c_X9_isSession V _ _ _ h1) ?_
  refine x_if_eq C 4 24 dX9_got_4 (by decide) (fun _ => ?_) (fun _ => ?_)
  · refine x_iconst C 24 dX9_got_24 ki_0 ?_
    exact x_iret1 C R 25 dX9_got_25
  · refine x_aload_n C 7 0 dX9_got_7 rfl ?_
    refine fg_now C 8 dX9_got_8 ?_
    refine x_bipush C 11 dX9_got_11 kb_50 ?_
    refine x_bipush C 13 dX9_got_13 kb_14 ?_
    refine x_iload_n C 15 1 dX9_got_15 rfl ?_
    refine x_imul C 16 dX9_got_16 ?_
    refine x_iadd C 17 dX9_got_17 ?_
    refine x_iconst C 18 dX9_got_18 ki_2 ?_
    refine x_iadd C 19 dX9_got_19 ?_
    refine x_iald C 20 (Nat.le_of_ble_eq_true rfl) (km_25 V _) dX9_got_20 (fun _ => ?_)
    refine x_goto C 21 25 dX9_got_21 (by decide) ?_
    exact x_iret1 C R 25 dX9_got_25
def M_X9_promise (σ : Wd) (v1 : Int32) (v2 : Int32) : Option (Int32 × Wd) :=
  bnd1 (M_X9_isSession v1) fun r1 => if r1 = 0 then (some ((0 : Int32), σ)) else (bnd1 (M_X9_in v2 (0 : Int32) (15 : Int32)) fun r11 => if r11 = 0 then (some ((0 : Int32), σ)) else (chk (ib ((50 : Int32) + ((14 : Int32) * v1)) 770) (if (gI σ 25 (ix ((50 : Int32) + ((14 : Int32) * v1)))) ≠ v2 then (bnd1 (M_X9_copiesNow σ) fun s_36 => chk (ib (((50 : Int32) + ((14 : Int32) * v1)) + (0 : Int32)) 770) (lt (uI s_36 26 (ix (((50 : Int32) + ((14 : Int32) * v1)) + (0 : Int32))) v2) fun s_53 => bnd1 (M_X9_records s_53) fun s_55 => some ((1 : Int32), s_55))) else (some ((0 : Int32), σ)))))
set_option maxRecDepth 100000 in
set_option maxHeartbeats 4000000 in
theorem c_X9_promise (V : Vt) (l : Launch) (σ : Wd) (v1 : Int32) (v2 : Int32) {r : Int32} {σ2 : Wd} (h : M_X9_promise σ v1 v2 = some (r, σ2)) : Ct l (Zm V) yX9_promise cX9_promise 3 (some .boolean) 2 42 [.ref (zA (Zm V) 0), .int v1, .int v2] σ (some (.int r)) σ2 := by
  refine Ct_intro (own := RX9) zm_ok (by decide +kernel) rfl (Nat.le_of_ble_eq_true rfl) [(0, .ref (zA (Zm V) 0)), (1, .int v1), (2, .int v2)] rfl (fun K C R hKl hnL => ?_)
  have hN := nl_of hnL
  subst hKl
  refine Y_end h ?_
  unfold M_X9_promise
  refine x_iload_n C 0 1 dX9_promise_0 rfl ?_
  refine Y_bnd1 (fun r1 h1 => ?_)
  refine x_callSi C 1 [.int v1] [] rfl tw_1569 ms_X9_isSession (Nat.le_of_ble_eq_true rfl) (Nat.le_of_ble_eq_true rfl) (Nat.le_of_ble_eq_true rfl) dX9_promise_1 (c_X9_isSession V _ _ _ h1) ?_
  refine x_if_eq C 4 33 dX9_promise_4 (by decide) (fun _ => ?_) (fun _ => ?_)
  · refine x_iconst C 33 dX9_promise_33 ki_0 ?_
    exact x_zret2 C R 34 (zb_nar (r := (0 : Int32)) (Or.inl rfl)) dX9_promise_34
  · refine x_iload_n C 7 2 dX9_promise_7 rfl ?_
    refine x_iconst C 8 dX9_promise_8 ki_0 ?_
    refine x_bipush C 9 dX9_promise_9 kb_15 ?_
    refine Y_bnd1 (fun r11 h11 => ?_)
    refine x_callSi C 11 [.int v2, .int (0 : Int32), .int (15 : Int32)] [] rfl tw_1572 ms_X9_in (Nat.le_of_ble_eq_true rfl) (Nat.le_of_ble_eq_true rfl) (Nat.le_of_ble_eq_true rfl) dX9_promise_11 (c_X9_in V _ _ _ _ _ h11) ?_
    refine x_if_eq C 14 33 dX9_promise_14 (by decide) (fun _ => ?_) (fun _ => ?_)
    · refine x_iconst C 33 dX9_promise_33 ki_0 ?_
      exact x_zret2 C R 34 (zb_nar (r := (0 : Int32)) (Or.inl rfl)) dX9_promise_34
    · refine x_aload_n C 17 0 dX9_promise_17 rfl ?_
      refine fg_now C 18 dX9_promise_18 ?_
      refine x_bipush C 21 dX9_promise_21 kb_50 ?_
      refine x_bipush C 23 dX9_promise_23 kb_14 ?_
      refine x_iload_n C 25 1 dX9_promise_25 rfl ?_
      refine x_imul C 26 dX9_promise_26 ?_
      refine x_iadd C 27 dX9_promise_27 ?_
      refine x_iald C 28 (Nat.le_of_ble_eq_true rfl) (km_25 V _) dX9_promise_28 (fun _ => ?_)
      refine x_iload_n C 29 2 dX9_promise_29 rfl ?_
      refine x_icmp_ne C 30 35 dX9_promise_30 (by decide) (fun _ => ?_) (fun _ => ?_)
      · refine x_aload_n C 35 0 dX9_promise_35 rfl ?_
        refine Y_bnd1 (fun s_36 h36 => ?_)
        refine x_callVv C 36 [] [] rfl tw_1579 mv_X9_copiesNow (Nat.le_of_ble_eq_true rfl) (Nat.le_of_ble_eq_true rfl) (Nat.le_of_ble_eq_true rfl) (Nat.le_of_ble_eq_true rfl) (km_0 V _) rfl dX9_promise_36 (c_X9_copiesNow V _ _  h36) ?_
        refine x_aload_n C 39 0 dX9_promise_39 rfl ?_
        refine fg_row C 40 dX9_promise_40 ?_
        refine x_bipush C 43 dX9_promise_43 kb_50 ?_
        refine x_bipush C 45 dX9_promise_45 kb_14 ?_
        refine x_iload_n C 47 1 dX9_promise_47 rfl ?_
        refine x_imul C 48 dX9_promise_48 ?_
        refine x_iadd C 49 dX9_promise_49 ?_
        refine x_iconst C 50 dX9_promise_50 ki_0 ?_
        refine x_iadd C 51 dX9_promise_51 ?_
        refine x_iload_n C 52 2 dX9_promise_52 rfl ?_
        refine x_iast C 53 (Nat.le_of_ble_eq_true rfl) (km_26 V) dX9_promise_53 (fun _ s_53 => ?_)
        refine x_aload_n C 54 0 dX9_promise_54 rfl ?_
        refine Y_bnd1 (fun s_55 h55 => ?_)
        refine x_callVv C 55 [] [] rfl tw_1651 mv_X9_records (Nat.le_of_ble_eq_true rfl) (Nat.le_of_ble_eq_true rfl) (Nat.le_of_ble_eq_true rfl) (Nat.le_of_ble_eq_true rfl) (km_0 V _) rfl dX9_promise_55 (c_X9_records V _ _  h55) ?_
        refine x_iconst C 58 dX9_promise_58 ki_1 ?_
        exact x_zret2 C R 59 (zb_nar (r := (1 : Int32)) (Or.inr rfl)) dX9_promise_59
      · refine x_iconst C 33 dX9_promise_33 ki_0 ?_
        exact x_zret2 C R 34 (zb_nar (r := (0 : Int32)) (Or.inl rfl)) dX9_promise_34
def M_X9_areTwo (σ : Wd) (v1 : Int32) (v2 : Int32) : Option Int32 :=
  bnd1 (M_X9_isCopy σ v1) fun r2 => if r2 = 0 then (some (0 : Int32)) else (bnd1 (M_X9_isCopy σ v2) fun r10 => if r10 = 0 then (some (0 : Int32)) else (if v1 = v2 then (some (0 : Int32)) else (some (1 : Int32))))
set_option maxRecDepth 100000 in
set_option maxHeartbeats 4000000 in
theorem c_X9_areTwo (V : Vt) (l : Launch) (σ : Wd) (v1 : Int32) (v2 : Int32) {r : Int32} (h : M_X9_areTwo σ v1 v2 = some r) : Ct l (Zm V) yX9_areTwo cX9_areTwo 3 (some .boolean) 2 43 [.ref (zA (Zm V) 0), .int v1, .int v2] σ (some (.int r)) σ := by
  refine Ct_intro (own := RX9) zm_ok (by decide +kernel) rfl (Nat.le_of_ble_eq_true rfl) [(0, .ref (zA (Zm V) 0)), (1, .int v1), (2, .int v2)] rfl (fun K C R hKl hnL => ?_)
  have hN := nl_of hnL
  subst hKl
  refine Y_end h ?_
  unfold M_X9_areTwo
  refine x_aload_n C 0 0 dX9_areTwo_0 rfl ?_
  refine x_iload_n C 1 1 dX9_areTwo_1 rfl ?_
  refine Y_bnd1 (fun r2 h2 => ?_)
  refine x_callVi C 2 [.int v1] [] rfl tw_1575 mv_X9_isCopy (Nat.le_of_ble_eq_true rfl) (Nat.le_of_ble_eq_true rfl) (Nat.le_of_ble_eq_true rfl) (Nat.le_of_ble_eq_true rfl) (km_0 V _) rfl dX9_areTwo_2 (c_X9_isCopy V _ _ _ h2) ?_
  refine x_if_eq C 5 25 dX9_areTwo_5 (by decide) (fun _ => ?_) (fun _ => ?_)
  · refine x_iconst C 25 dX9_areTwo_25 ki_0 ?_
    exact x_zret1 C R 26 (zb_nar (r := (0 : Int32)) (Or.inl rfl)) dX9_areTwo_26
  · refine x_aload_n C 8 0 dX9_areTwo_8 rfl ?_
    refine x_iload_n C 9 2 dX9_areTwo_9 rfl ?_
    refine Y_bnd1 (fun r10 h10 => ?_)
    refine x_callVi C 10 [.int v2] [] rfl tw_1575 mv_X9_isCopy (Nat.le_of_ble_eq_true rfl) (Nat.le_of_ble_eq_true rfl) (Nat.le_of_ble_eq_true rfl) (Nat.le_of_ble_eq_true rfl) (km_0 V _) rfl dX9_areTwo_10 (c_X9_isCopy V _ _ _ h10) ?_
    refine x_if_eq C 13 25 dX9_areTwo_13 (by decide) (fun _ => ?_) (fun _ => ?_)
    · refine x_iconst C 25 dX9_areTwo_25 ki_0 ?_
      exact x_zret1 C R 26 (zb_nar (r := (0 : Int32)) (Or.inl rfl)) dX9_areTwo_26
    · refine x_iload_n C 16 1 dX9_areTwo_16 rfl ?_
      refine x_iload_n C 17 2 dX9_areTwo_17 rfl ?_
      refine x_icmp_eq C 18 25 dX9_areTwo_18 (by decide) (fun _ => ?_) (fun _ => ?_)
      · refine x_iconst C 25 dX9_areTwo_25 ki_0 ?_
        exact x_zret1 C R 26 (zb_nar (r := (0 : Int32)) (Or.inl rfl)) dX9_areTwo_26
      · refine x_iconst C 21 dX9_areTwo_21 ki_1 ?_
        refine x_goto C 22 26 dX9_areTwo_22 (by decide) ?_
        exact x_zret1 C R 26 (zb_nar (r := (1 : Int32)) (Or.inr rfl)) dX9_areTwo_26
def M_X9_meet (σ : Wd) (v1 : Int32) (v2 : Int32) : Option (Int32 × Wd) :=
  bnd1 (M_X9_areTwo σ v1 v2) fun r3 => if r3 ≠ 0 then (bnd1 (M_X9_copiesNow σ) fun s_12 => bnd2 (M_X9_meets s_12 v1 v2) fun r18 s_18 => bnd1 (M_X9_records s_18) fun s_23 => some (r18, s_23)) else (some ((-1 : Int32), σ))
set_option maxRecDepth 100000 in
set_option maxHeartbeats 4000000 in
theorem c_X9_meet (V : Vt) (l : Launch) (σ : Wd) (v1 : Int32) (v2 : Int32) {r : Int32} {σ2 : Wd} (h : M_X9_meet σ v1 v2 = some (r, σ2)) : Ct l (Zm V) yX9_meet cX9_meet 4 (some .int) 5 116 [.ref (zA (Zm V) 0), .int v1, .int v2] σ (some (.int r)) σ2 := by
  refine Ct_intro (own := RX9) zm_ok (by decide +kernel) rfl (Nat.le_of_ble_eq_true rfl) [(0, .ref (zA (Zm V) 0)), (1, .int v1), (2, .int v2)] rfl (fun K C R hKl hnL => ?_)
  have hN := nl_of hnL
  subst hKl
  refine Y_end h ?_
  unfold M_X9_meet
  refine x_aload_n C 0 0 dX9_meet_0 rfl ?_
  refine x_iload_n C 1 1 dX9_meet_1 rfl ?_
  refine x_iload_n C 2 2 dX9_meet_2 rfl ?_
  refine Y_bnd1 (fun r3 h3 => ?_)
  refine x_callVi C 3 [.int v1, .int v2] [] rfl tw_1707 mv_X9_areTwo (Nat.le_of_ble_eq_true rfl) (Nat.le_of_ble_eq_true rfl) (Nat.le_of_ble_eq_true rfl) (Nat.le_of_ble_eq_true rfl) (km_0 V _) rfl dX9_meet_3 (c_X9_areTwo V _ _ _ _ h3) ?_
  refine x_if_ne C 6 11 dX9_meet_6 (by decide) (fun _ => ?_) (fun _ => ?_)
  · refine x_aload_n C 11 0 dX9_meet_11 rfl ?_
    refine Y_bnd1 (fun s_12 h12 => ?_)
    refine x_callVv C 12 [] [] rfl tw_1579 mv_X9_copiesNow (Nat.le_of_ble_eq_true rfl) (Nat.le_of_ble_eq_true rfl) (Nat.le_of_ble_eq_true rfl) (Nat.le_of_ble_eq_true rfl) (km_0 V _) rfl dX9_meet_12 (c_X9_copiesNow V _ _  h12) ?_
    refine x_aload_n C 15 0 dX9_meet_15 rfl ?_
    refine x_iload_n C 16 1 dX9_meet_16 rfl ?_
    refine x_iload_n C 17 2 dX9_meet_17 rfl ?_
    refine Y_bnd2 (fun r18 s_18 h18 => ?_)
    refine x_callVi C 18 [.int v1, .int v2] [] rfl tw_1711 mv_X9_meets (Nat.le_of_ble_eq_true rfl) (Nat.le_of_ble_eq_true rfl) (Nat.le_of_ble_eq_true rfl) (Nat.le_of_ble_eq_true rfl) (km_0 V _) rfl dX9_meet_18 (c_X9_meets V _ _ _ _ h18) ?_
    refine x_istore_n C 21 (L' := [(3, .int r18), (0, .ref (zA (Zm V) 0)), (1, .int v1), (2, .int v2)]) dX9_meet_21 rfl (hN _ (Nat.le_of_ble_eq_true rfl)) rfl ?_
    refine x_aload_n C 22 1 dX9_meet_22 rfl ?_
    refine Y_bnd1 (fun s_23 h23 => ?_)
    refine x_callVv C 23 [] [] rfl tw_1651 mv_X9_records (Nat.le_of_ble_eq_true rfl) (Nat.le_of_ble_eq_true rfl) (Nat.le_of_ble_eq_true rfl) (Nat.le_of_ble_eq_true rfl) (km_0 V _) rfl dX9_meet_23 (c_X9_records V _ _  h23) ?_
    refine x_iload_n C 26 0 dX9_meet_26 rfl ?_
    exact x_iret2 C R 27 dX9_meet_27
  · refine x_iconst C 9 dX9_meet_9 ki_m1 ?_
    exact x_iret2 C R 10 dX9_meet_10
def M_X9_lead (σ : Wd) (v1 : Int32) : Option (Int32 × Wd) :=
  bnd1 (M_X9_copiesNow σ) fun s_1 => bnd1 (M_X9_isCopy s_1 v1) fun r6 => if r6 = 0 then (some ((0 : Int32), s_1)) else (chk (ib (2 : Int32) 770) (if (gI s_1 26 (ix (2 : Int32))) = v1 then (some ((0 : Int32), s_1)) else (bnd1 (M_X9_ofCopy s_1 v1 (0 : Int32)) fun r25 => chk (ib (1 : Int32) 770) (if (gI s_1 26 (ix (1 : Int32))) ≤ r25 then (bnd1 (M_X9_opens s_1 v1) fun s_41 => chk (ib (2 : Int32) 770) (lt (uI s_41 26 (ix (2 : Int32)) v1) fun s_50 => bnd1 (M_X9_shuts s_50 v1) fun s_53 => bnd1 (M_X9_records s_53) fun s_57 => some ((1 : Int32), s_57))) else (some ((0 : Int32), s_1))))))
set_option maxRecDepth 100000 in
set_option maxHeartbeats 4000000 in
theorem c_X9_lead (V : Vt) (l : Launch) (σ : Wd) (v1 : Int32) {r : Int32} {σ2 : Wd} (h : M_X9_lead σ v1 = some (r, σ2)) : Ct l (Zm V) yX9_lead cX9_lead 2 (some .boolean) 2 45 [.ref (zA (Zm V) 0), .int v1] σ (some (.int r)) σ2 := by
  refine Ct_intro (own := RX9) zm_ok (by decide +kernel) rfl (Nat.le_of_ble_eq_true rfl) [(0, .ref (zA (Zm V) 0)), (1, .int v1)] rfl (fun K C R hKl hnL => ?_)
  have hN := nl_of hnL
  subst hKl
  refine Y_end h ?_
  unfold M_X9_lead
  refine x_aload_n C 0 0 dX9_lead_0 rfl ?_
  refine Y_bnd1 (fun s_1 h1 => ?_)
  refine x_callVv C 1 [] [] rfl tw_1579 mv_X9_copiesNow (Nat.le_of_ble_eq_true rfl) (Nat.le_of_ble_eq_true rfl) (Nat.le_of_ble_eq_true rfl) (Nat.le_of_ble_eq_true rfl) (km_0 V _) rfl dX9_lead_1 (c_X9_copiesNow V _ _  h1) ?_
  refine x_aload_n C 4 0 dX9_lead_4 rfl ?_
  refine x_iload_n C 5 1 dX9_lead_5 rfl ?_
  refine Y_bnd1 (fun r6 h6 => ?_)
  refine x_callVi C 6 [.int v1] [] rfl tw_1575 mv_X9_isCopy (Nat.le_of_ble_eq_true rfl) (Nat.le_of_ble_eq_true rfl) (Nat.le_of_ble_eq_true rfl) (Nat.le_of_ble_eq_true rfl) (km_0 V _) rfl dX9_lead_6 (c_X9_isCopy V _ _ _ h6) ?_
  refine x_if_eq C 9 37 dX9_lead_9 (by decide) (fun _ => ?_) (fun _ => ?_)
  · refine x_iconst C 37 dX9_lead_37 ki_0 ?_
    exact x_zret2 C R 38 (zb_nar (r := (0 : Int32)) (Or.inl rfl)) dX9_lead_38
  · refine x_aload_n C 12 0 dX9_lead_12 rfl ?_
    refine fg_row C 13 dX9_lead_13 ?_
    refine x_iconst C 16 dX9_lead_16 ki_2 ?_
    refine x_iald C 17 (Nat.le_of_ble_eq_true rfl) (km_26 V _) dX9_lead_17 (fun _ => ?_)
    refine x_iload_n C 18 1 dX9_lead_18 rfl ?_
    refine x_icmp_eq C 19 37 dX9_lead_19 (by decide) (fun _ => ?_) (fun _ => ?_)
    · refine x_iconst C 37 dX9_lead_37 ki_0 ?_
      exact x_zret2 C R 38 (zb_nar (r := (0 : Int32)) (Or.inl rfl)) dX9_lead_38
    · refine x_aload_n C 22 0 dX9_lead_22 rfl ?_
      refine x_iload_n C 23 1 dX9_lead_23 rfl ?_
      refine x_iconst C 24 dX9_lead_24 ki_0 ?_
      refine Y_bnd1 (fun r25 h25 => ?_)
      refine x_callVi C 25 [.int v1, .int (0 : Int32)] [] rfl tw_1635 mv_X9_ofCopy (Nat.le_of_ble_eq_true rfl) (Nat.le_of_ble_eq_true rfl) (Nat.le_of_ble_eq_true rfl) (Nat.le_of_ble_eq_true rfl) (km_0 V _) rfl dX9_lead_25 (c_X9_ofCopy V _ _ _ _ h25) ?_
      refine x_aload_n C 28 0 dX9_lead_28 rfl ?_
      refine fg_row C 29 dX9_lead_29 ?_
      refine x_iconst C 32 dX9_lead_32 ki_1 ?_
      refine x_iald C 33 (Nat.le_of_ble_eq_true rfl) (km_26 V _) dX9_lead_33 (fun _ => ?_)
      refine x_icmp_ge C 34 39 dX9_lead_34 (by decide) (fun _ => ?_) (fun _ => ?_)
      · refine x_aload_n C 39 0 dX9_lead_39 rfl ?_
        refine x_iload_n C 40 1 dX9_lead_40 rfl ?_
        refine Y_bnd1 (fun s_41 h41 => ?_)
        refine x_callVv C 41 [.int v1] [] rfl tw_1583 mv_X9_opens (Nat.le_of_ble_eq_true rfl) (Nat.le_of_ble_eq_true rfl) (Nat.le_of_ble_eq_true rfl) (Nat.le_of_ble_eq_true rfl) (km_0 V _) rfl dX9_lead_41 (c_X9_opens V _ _ _ h41) ?_
        refine x_aload_n C 44 0 dX9_lead_44 rfl ?_
        refine fg_row C 45 dX9_lead_45 ?_
        refine x_iconst C 48 dX9_lead_48 ki_2 ?_
        refine x_iload_n C 49 1 dX9_lead_49 rfl ?_
        refine x_iast C 50 (Nat.le_of_ble_eq_true rfl) (km_26 V) dX9_lead_50 (fun _ s_50 => ?_)
        refine x_aload_n C 51 0 dX9_lead_51 rfl ?_
        refine x_iload_n C 52 1 dX9_lead_52 rfl ?_
        refine Y_bnd1 (fun s_53 h53 => ?_)
        refine x_callVv C 53 [.int v1] [] rfl tw_1647 mv_X9_shuts (Nat.le_of_ble_eq_true rfl) (Nat.le_of_ble_eq_true rfl) (Nat.le_of_ble_eq_true rfl) (Nat.le_of_ble_eq_true rfl) (km_0 V _) rfl dX9_lead_53 (c_X9_shuts V _ _ _ h53) ?_
        refine x_aload_n C 56 0 dX9_lead_56 rfl ?_
        refine Y_bnd1 (fun s_57 h57 => ?_)
        refine x_callVv C 57 [] [] rfl tw_1651 mv_X9_records (Nat.le_of_ble_eq_true rfl) (Nat.le_of_ble_eq_true rfl) (Nat.le_of_ble_eq_true rfl) (Nat.le_of_ble_eq_true rfl) (km_0 V _) rfl dX9_lead_57 (c_X9_records V _ _  h57) ?_
        refine x_iconst C 60 dX9_lead_60 ki_1 ?_
        exact x_zret2 C R 61 (zb_nar (r := (1 : Int32)) (Or.inr rfl)) dX9_lead_61
      · refine x_iconst C 37 dX9_lead_37 ki_0 ?_
        exact x_zret2 C R 38 (zb_nar (r := (0 : Int32)) (Or.inl rfl)) dX9_lead_38
def M_X9_isLong (v0 : Int32) : Option Int32 :=
  bnd1 (M_X9_in v0 (0 : Int32) (60 : Int32)) fun r4 => chk (zb r4) (some r4)
set_option maxRecDepth 100000 in
set_option maxHeartbeats 4000000 in
theorem c_X9_isLong (V : Vt) (l : Launch) (σ : Wd) (v0 : Int32) {r : Int32} (h : M_X9_isLong v0 = some r) : Ct l (Zm V) yX9_isLong cX9_isLong 1 (some .boolean) 1 22 [.int v0] σ (some (.int r)) σ := by
  refine Ct_intro (own := RX9) zm_ok (by decide +kernel) rfl (Nat.le_of_ble_eq_true rfl) [(0, .int v0)] rfl (fun K C R hKl hnL => ?_)
  have hN := nl_of hnL
  subst hKl
  refine Y_end h ?_
  unfold M_X9_isLong
  refine x_iload_n C 0 0 dX9_isLong_0 rfl ?_
  refine x_iconst C 1 dX9_isLong_1 ki_0 ?_
  refine x_bipush C 2 dX9_isLong_2 kb_60 ?_
  refine Y_bnd1 (fun r4 h4 => ?_)
  refine x_callSi C 4 [.int v0, .int (0 : Int32), .int (60 : Int32)] [] rfl tw_1572 ms_X9_in (Nat.le_of_ble_eq_true rfl) (Nat.le_of_ble_eq_true rfl) (Nat.le_of_ble_eq_true rfl) dX9_isLong_4 (c_X9_in V _ _ _ _ _ h4) ?_
  refine Y_chk (fun hzb => ?_)
  exact x_zret1 C R 7 (hz01 := zb_nar hzb) dX9_isLong_7
def M_X9_chance_L26 (v1 : Int32) (v2 : Int32) (σ : Wd) : Option ((Int32 × Wd) ⊕ (Wd)) :=
  if v1 ≤ v2 then (some (.inr σ)) else (bnd1 (M_X9_meetsByChance σ) fun s_32 => lt (v2 + (1 : Int32)) fun v2_35 => some (.inl (v2_35, s_32)))
def M_X9_chance (σ : Wd) (v1 : Int32) : Option (Int32 × Wd) :=
  bnd1 (M_X9_isLong v1) fun r1 => if r1 ≠ 0 then (if v1 ≠ 0 then (bnd1 (M_X9_copiesNow σ) fun s_21 => bnd1 (iter (fun s : Int32 × Wd => M_X9_chance_L26 v1 s.1 s.2) FU ((0 : Int32), s_21)) (un1 fun sx_26 => (bnd1 (M_X9_records sx_26) fun s_42 => chk (ib (3 : Int32) 770) (some ((gI s_42 25 (ix (3 : Int32))), s_42))))) else (chk (ib (3 : Int32) 770) (some ((gI σ 25 (ix (3 : Int32))), σ)))) else (some ((-1 : Int32), σ))
set_option maxRecDepth 100000 in
set_option maxHeartbeats 4000000 in
theorem c_X9_chance (V : Vt) (l : Launch) (σ : Wd) (v1 : Int32) {r : Int32} {σ2 : Wd} (h : M_X9_chance σ v1 = some (r, σ2)) : Ct l (Zm V) yX9_chance cX9_chance 3 (some .int) 6 140 [.ref (zA (Zm V) 0), .int v1] σ (some (.int r)) σ2 := by
  refine Ct_intro (own := RX9) zm_ok (by decide +kernel) rfl (Nat.le_of_ble_eq_true rfl) [(0, .ref (zA (Zm V) 0)), (1, .int v1)] rfl (fun K C R hKl hnL => ?_)
  have hN := nl_of hnL
  subst hKl
  refine Y_end h ?_
  unfold M_X9_chance
  refine x_iload_n C 0 1 dX9_chance_0 rfl ?_
  refine Y_bnd1 (fun r1 h1 => ?_)
  refine x_callSi C 1 [.int v1] [] rfl tw_1735 ms_X9_isLong (Nat.le_of_ble_eq_true rfl) (Nat.le_of_ble_eq_true rfl) (Nat.le_of_ble_eq_true rfl) dX9_chance_1 (c_X9_isLong V _ _ _ h1) ?_
  refine x_if_ne C 4 9 dX9_chance_4 (by decide) (fun _ => ?_) (fun _ => ?_)
  · refine x_iload_n C 9 1 dX9_chance_9 rfl ?_
    refine x_if_ne C 10 20 dX9_chance_10 (by decide) (fun _ => ?_) (fun _ => ?_)
    · refine x_aload_n C 20 0 dX9_chance_20 rfl ?_
      refine Y_bnd1 (fun s_21 h21 => ?_)
      refine x_callVv C 21 [] [] rfl tw_1579 mv_X9_copiesNow (Nat.le_of_ble_eq_true rfl) (Nat.le_of_ble_eq_true rfl) (Nat.le_of_ble_eq_true rfl) (Nat.le_of_ble_eq_true rfl) (km_0 V _) rfl dX9_chance_21 (c_X9_copiesNow V _ _  h21) ?_
      refine x_iconst C 24 dX9_chance_24 ki_0 ?_
      refine x_istore_n C 25 (L' := [(2, .int (0 : Int32)), (0, .ref (zA (Zm V) 0)), (1, .int v1)]) dX9_chance_25 rfl (hN _ (Nat.le_of_ble_eq_true rfl)) rfl ?_
      refine Y_sub [1, 2, 0] rfl ?_
      refine x_loop 26 (fun s : Int32 × Wd => s.2) (fun s : Int32 × Wd => [(0, .ref (zA (Zm V) 0)), (1, .int v1), (2, .int s.1)]) (fun E26 hb26 hx26 s => ?_) FU ((0 : Int32), s_21)
      obtain ⟨v2_26, s_26⟩ := s
      show Y K (Zm V) (M_X9_chance_L26 v1 v2_26 s_26) E26 s_26 26 [(0, .ref (zA (Zm V) 0)), (1, .int v1), (2, .int v2_26)] []
      unfold M_X9_chance_L26
      refine x_iload_n C 26 2 dX9_chance_26 rfl ?_
      refine x_iload_n C 27 1 dX9_chance_27 rfl ?_
      refine x_icmp_ge C 28 41 dX9_chance_28 (by decide) (fun _ => ?_) (fun _ => ?_)
      · refine x_ex1 hx26 s_26 ?_
        refine x_aload_n C 41 0 dX9_chance_41 rfl ?_
        refine Y_bnd1 (fun s_42 h42 => ?_)
        refine x_callVv C 42 [] [] rfl tw_1651 mv_X9_records (Nat.le_of_ble_eq_true rfl) (Nat.le_of_ble_eq_true rfl) (Nat.le_of_ble_eq_true rfl) (Nat.le_of_ble_eq_true rfl) (km_0 V _) rfl dX9_chance_42 (c_X9_records V _ _  h42) ?_
        refine x_aload_n C 45 0 dX9_chance_45 rfl ?_
        refine fg_now C 46 dX9_chance_46 ?_
        refine x_iconst C 49 dX9_chance_49 ki_3 ?_
        refine x_iald C 50 (Nat.le_of_ble_eq_true rfl) (km_25 V _) dX9_chance_50 (fun _ => ?_)
        exact x_iret2 C R 51 dX9_chance_51
      · refine x_aload_n C 31 0 dX9_chance_31 rfl ?_
        refine Y_bnd1 (fun s_32 h32 => ?_)
        refine x_callVv C 32 [] [] rfl tw_1738 mv_X9_meetsByChance (Nat.le_of_ble_eq_true rfl) (Nat.le_of_ble_eq_true rfl) (Nat.le_of_ble_eq_true rfl) (Nat.le_of_ble_eq_true rfl) (km_0 V _) rfl dX9_chance_32 (c_X9_meetsByChance V _ _  h32) ?_
        refine x_iinct C 35 2 (1 : Int32) (fun v2_35 => [(2, .int v2_35), (0, .ref (zA (Zm V) 0)), (1, .int v1)]) dX9_chance_35 rfl ki_1 (hN _ (Nat.le_of_ble_eq_true rfl)) (fun _ => rfl) (fun v2_35 => ?_)
        refine x_goto C 38 26 dX9_chance_38 (by decide) ?_
        refine Y_sub [1, 2, 0] rfl ?_
        exact x_back (v2_35, s_32) (hb26 (v2_35, s_32))
    · refine x_aload_n C 13 0 dX9_chance_13 rfl ?_
      refine fg_now C 14 dX9_chance_14 ?_
      refine x_iconst C 17 dX9_chance_17 ki_3 ?_
      refine x_iald C 18 (Nat.le_of_ble_eq_true rfl) (km_25 V _) dX9_chance_18 (fun _ => ?_)
      exact x_iret2 C R 19 dX9_chance_19
  · refine x_iconst C 7 dX9_chance_7 ki_m1 ?_
    exact x_iret2 C R 8 dX9_chance_8
def M_X9_undo_L21 (v1 : Int32) (σ : Wd) : Option ((Int32 × Wd) ⊕ (Wd)) :=
  if (770 : Int32) ≤ v1 then (some (.inr σ)) else (chk (ib (((770 : Int32) * (gI σ 0 51)) + v1) 30800) (chk (ib v1 770) (lt (uI σ 25 (ix v1) (gI σ 32 (ix (((770 : Int32) * (gI σ 0 51)) + v1)))) fun s_48 => lt (v1 + (1 : Int32)) fun v1_49 => some (.inl (v1_49, s_48)))))
def M_X9_undo (σ : Wd) : Option (Int32 × Wd) :=
  if (gI σ 0 51) ≠ 0 then (lt (uI σ 0 51 ((gI σ 0 51) - (1 : Int32))) fun s_16 => bnd1 (iter (fun s : Int32 × Wd => M_X9_undo_L21 s.1 s.2) FU ((0 : Int32), s_16)) (un1 fun sx_21 => (some ((1 : Int32), sx_21)))) else (some ((0 : Int32), σ))
set_option maxRecDepth 100000 in
set_option maxHeartbeats 4000000 in
theorem c_X9_undo (V : Vt) (l : Launch) (σ : Wd) {r : Int32} {σ2 : Wd} (h : M_X9_undo σ = some (r, σ2)) : Ct l (Zm V) yX9_undo cX9_undo 2 (some .boolean) 0 0 [.ref (zA (Zm V) 0)] σ (some (.int r)) σ2 := by
  refine Ct_intro (own := RX9) zm_ok (by decide +kernel) rfl (Nat.le_of_ble_eq_true rfl) [(0, .ref (zA (Zm V) 0))] rfl (fun K C R hKl hnL => ?_)
  have hN := nl_of hnL
  subst hKl
  refine Y_end h ?_
  unfold M_X9_undo
  refine x_aload_n C 0 0 dX9_undo_0 rfl ?_
  refine fg_undos C 1 dX9_undo_1 ?_
  refine x_if_ne C 4 9 dX9_undo_4 (by decide) (fun _ => ?_) (fun _ => ?_)
  · refine x_aload_n C 9 0 dX9_undo_9 rfl ?_
    refine x_dup C 10 dX9_undo_10 rfl ?_
    refine fg_undos C 11 dX9_undo_11 ?_
    refine x_iconst C 14 dX9_undo_14 ki_1 ?_
    refine x_isub C 15 dX9_undo_15 ?_
    refine fp_undos C 16 dX9_undo_16 (fun s_16 => ?_)
    refine x_iconst C 19 dX9_undo_19 ki_0 ?_
    refine x_istore_n C 20 (L' := [(1, .int (0 : Int32)), (0, .ref (zA (Zm V) 0))]) dX9_undo_20 rfl (hN _ (Nat.le_of_ble_eq_true rfl)) rfl ?_
    refine Y_sub [1, 0] rfl ?_
    refine x_loop 21 (fun s : Int32 × Wd => s.2) (fun s : Int32 × Wd => [(0, .ref (zA (Zm V) 0)), (1, .int s.1)]) (fun E21 hb21 hx21 s => ?_) FU ((0 : Int32), s_16)
    obtain ⟨v1_21, s_21⟩ := s
    show Y K (Zm V) (M_X9_undo_L21 v1_21 s_21) E21 s_21 21 [(0, .ref (zA (Zm V) 0)), (1, .int v1_21)] []
    unfold M_X9_undo_L21
    refine x_iload_n C 21 1 dX9_undo_21 rfl ?_
    refine x_sipush C 22 dX9_undo_22 ks_770 ?_
    refine x_icmp_ge C 25 55 dX9_undo_25 (by decide) (fun _ => ?_) (fun _ => ?_)
    · refine x_ex1 hx21 s_21 ?_
      refine x_iconst C 55 dX9_undo_55 ki_1 ?_
      exact x_zret2 C R 56 (zb_nar (r := (1 : Int32)) (Or.inr rfl)) dX9_undo_56
    · refine x_aload_n C 28 0 dX9_undo_28 rfl ?_
      refine fg_now C 29 dX9_undo_29 ?_
      refine x_iload_n C 32 1 dX9_undo_32 rfl ?_
      refine x_aload_n C 33 0 dX9_undo_33 rfl ?_
      refine fg_history C 34 dX9_undo_34 ?_
      refine x_sipush C 37 dX9_undo_37 ks_770 ?_
      refine x_aload_n C 40 0 dX9_undo_40 rfl ?_
      refine fg_undos C 41 dX9_undo_41 ?_
      refine x_imul C 44 dX9_undo_44 ?_
      refine x_iload_n C 45 1 dX9_undo_45 rfl ?_
      refine x_iadd C 46 dX9_undo_46 ?_
      refine x_iald C 47 (Nat.le_of_ble_eq_true rfl) (km_32 V _) dX9_undo_47 (fun _ => ?_)
      refine x_iast C 48 (Nat.le_of_ble_eq_true rfl) (km_25 V) dX9_undo_48 (fun _ s_48 => ?_)
      refine x_iinct C 49 1 (1 : Int32) (fun v1_49 => [(1, .int v1_49), (0, .ref (zA (Zm V) 0))]) dX9_undo_49 rfl ki_1 (hN _ (Nat.le_of_ble_eq_true rfl)) (fun _ => rfl) (fun v1_49 => ?_)
      refine x_goto C 52 21 dX9_undo_52 (by decide) ?_
      refine Y_sub [1, 0] rfl ?_
      exact x_back (v1_49, s_48) (hb21 (v1_49, s_48))
  · refine x_iconst C 7 dX9_undo_7 ki_0 ?_
    exact x_zret2 C R 8 (zb_nar (r := (0 : Int32)) (Or.inl rfl)) dX9_undo_8
def M_X9_cell_J45 (σ : Wd) (v2 : Int32) (t0 : Int32) : Option (Int32 × Wd) :=
  bnd1 (M_X9_doesLog σ t0) fun s_45 => chk (ib v2 6) (some ((gI s_45 29 (ix v2)), s_45))
def M_X9_cell (σ : Wd) (v1 : Int32) (v2 : Int32) (v3 : Int32) : Option (Int32 × Wd) :=
  bnd1 (M_X9_isCopy σ v1) fun r2 => if r2 = 0 then (some ((0 : Int32), σ)) else (bnd1 (M_X9_isCell σ v2) fun r10 => if r10 ≠ 0 then (bnd1 (M_X9_copiesNow σ) fun s_19 => bnd1 (M_X9_fillsLog s_19 v1) fun s_24 => if v3 = 0 then (M_X9_cell_J45 s_24 v2 (gI s_24 0 45)) else (bnd1 (M_X9_ofCopy s_24 v1 (0 : Int32)) fun r35 => M_X9_cell_J45 s_24 v2 r35)) else (some ((0 : Int32), σ)))
set_option maxRecDepth 100000 in
set_option maxHeartbeats 4000000 in
theorem c_X9_cell (V : Vt) (l : Launch) (σ : Wd) (v1 : Int32) (v2 : Int32) (v3 : Int32) {r : Int32} {σ2 : Wd} (h : M_X9_cell σ v1 v2 v3 = some (r, σ2)) : Ct l (Zm V) yX9_cell cX9_cell 4 (some .int) 4 100 [.ref (zA (Zm V) 0), .int v1, .int v2, .int v3] σ (some (.int r)) σ2 := by
  refine Ct_intro (own := RX9) zm_ok (by decide +kernel) rfl (Nat.le_of_ble_eq_true rfl) [(0, .ref (zA (Zm V) 0)), (1, .int v1), (2, .int v2), (3, .int v3)] rfl (fun K C R hKl hnL => ?_)
  have hN := nl_of hnL
  subst hKl
  refine Y_end h ?_
  unfold M_X9_cell
  refine x_aload_n C 0 0 dX9_cell_0 rfl ?_
  refine x_iload_n C 1 1 dX9_cell_1 rfl ?_
  refine Y_bnd1 (fun r2 h2 => ?_)
  refine x_callVi C 2 [.int v1] [] rfl tw_1575 mv_X9_isCopy (Nat.le_of_ble_eq_true rfl) (Nat.le_of_ble_eq_true rfl) (Nat.le_of_ble_eq_true rfl) (Nat.le_of_ble_eq_true rfl) (km_0 V _) rfl dX9_cell_2 (c_X9_isCopy V _ _ _ h2) ?_
  refine x_if_eq C 5 16 dX9_cell_5 (by decide) (fun _ => ?_) (fun _ => ?_)
  · refine x_iconst C 16 dX9_cell_16 ki_0 ?_
    exact x_iret2 C R 17 dX9_cell_17
  · refine x_aload_n C 8 0 dX9_cell_8 rfl ?_
    refine x_iload_n C 9 2 dX9_cell_9 rfl ?_
    refine Y_bnd1 (fun r10 h10 => ?_)
    refine x_callVi C 10 [.int v2] [] rfl tw_1659 mv_X9_isCell (Nat.le_of_ble_eq_true rfl) (Nat.le_of_ble_eq_true rfl) (Nat.le_of_ble_eq_true rfl) (Nat.le_of_ble_eq_true rfl) (km_0 V _) rfl dX9_cell_10 (c_X9_isCell V _ _ _ h10) ?_
    refine x_if_ne C 13 18 dX9_cell_13 (by decide) (fun _ => ?_) (fun _ => ?_)
    · refine x_aload_n C 18 0 dX9_cell_18 rfl ?_
      refine Y_bnd1 (fun s_19 h19 => ?_)
      refine x_callVv C 19 [] [] rfl tw_1579 mv_X9_copiesNow (Nat.le_of_ble_eq_true rfl) (Nat.le_of_ble_eq_true rfl) (Nat.le_of_ble_eq_true rfl) (Nat.le_of_ble_eq_true rfl) (km_0 V _) rfl dX9_cell_19 (c_X9_copiesNow V _ _  h19) ?_
      refine x_aload_n C 22 0 dX9_cell_22 rfl ?_
      refine x_iload_n C 23 1 dX9_cell_23 rfl ?_
      refine Y_bnd1 (fun s_24 h24 => ?_)
      refine x_callVv C 24 [.int v1] [] rfl tw_1631 mv_X9_fillsLog (Nat.le_of_ble_eq_true rfl) (Nat.le_of_ble_eq_true rfl) (Nat.le_of_ble_eq_true rfl) (Nat.le_of_ble_eq_true rfl) (km_0 V _) rfl dX9_cell_24 (c_X9_fillsLog V _ _ _ h24) ?_
      refine x_aload_n C 27 0 dX9_cell_27 rfl ?_
      refine x_iload_n C 28 3 dX9_cell_28 rfl ?_
      have hJ45 : ∀ (σ_45 : Wd) (v2_45 : Int32) (t0_45 : Int32), Y K (Zm V) (M_X9_cell_J45 σ_45 v2_45 t0_45) (fun q => q = (r, σ2)) σ_45 45 [(0, .ref (zA (Zm V) 0)), (2, .int v2_45)] [.int t0_45, .ref (zA (Zm V) 0)] := by
        intro σ_45 v2_45 t0_45
        unfold M_X9_cell_J45
        refine Y_bnd1 (fun s_45 h45 => ?_)
        refine x_callVv C 45 [.int t0_45] [] rfl tw_1675 mv_X9_doesLog (Nat.le_of_ble_eq_true rfl) (Nat.le_of_ble_eq_true rfl) (Nat.le_of_ble_eq_true rfl) (Nat.le_of_ble_eq_true rfl) (km_0 V _) rfl dX9_cell_45 (c_X9_doesLog V _ _ _ h45) ?_
        refine x_aload_n C 48 0 dX9_cell_48 rfl ?_
        refine fg_cellNow C 49 dX9_cell_49 ?_
        refine x_iload_n C 52 1 dX9_cell_52 rfl ?_
        refine x_iald C 53 (Nat.le_of_ble_eq_true rfl) (km_29 V _) dX9_cell_53 (fun _ => ?_)
        exact x_iret2 C R 54 dX9_cell_54
      refine x_if_eq C 29 41 dX9_cell_29 (by decide) (fun _ => ?_) (fun _ => ?_)
      · refine x_aload_n C 41 0 dX9_cell_41 rfl ?_
        refine fg_logMany C 42 dX9_cell_42 ?_
        refine Y_sub [0, 2] rfl ?_
        exact hJ45 _ _ _
      · refine x_aload_n C 32 0 dX9_cell_32 rfl ?_
        refine x_iload_n C 33 1 dX9_cell_33 rfl ?_
        refine x_iconst C 34 dX9_cell_34 ki_0 ?_
        refine Y_bnd1 (fun r35 h35 => ?_)
        refine x_callVi C 35 [.int v1, .int (0 : Int32)] [.ref (zA (Zm V) 0)] rfl tw_1635 mv_X9_ofCopy (Nat.le_of_ble_eq_true rfl) (Nat.le_of_ble_eq_true rfl) (Nat.le_of_ble_eq_true rfl) (Nat.le_of_ble_eq_true rfl) (km_0 V _) rfl dX9_cell_35 (c_X9_ofCopy V _ _ _ _ h35) ?_
        refine x_goto C 38 45 dX9_cell_38 (by decide) ?_
        refine Y_sub [0, 2] rfl ?_
        exact hJ45 _ _ _
    · refine x_iconst C 16 dX9_cell_16 ki_0 ?_
      exact x_iret2 C R 17 dX9_cell_17
def M_X9_log (σ : Wd) (v1 : Int32) (v2 : Int32) : Option (Int32 × Wd) :=
  bnd1 (M_X9_isCopy σ v1) fun r2 => if r2 ≠ 0 then (bnd1 (M_X9_copiesNow σ) fun s_11 => bnd1 (M_X9_fillsLog s_11 v1) fun s_16 => bnd1 (M_X9_in v2 (0 : Int32) ((gI s_16 0 45) - (1 : Int32))) fun r27 => if r27 = 0 then (some ((-1 : Int32), s_16)) else (chk (ib v2 60) (some ((gI s_16 27 (ix v2)), s_16)))) else (some ((-1 : Int32), σ))
set_option maxRecDepth 100000 in
set_option maxHeartbeats 4000000 in
theorem c_X9_log (V : Vt) (l : Launch) (σ : Wd) (v1 : Int32) (v2 : Int32) {r : Int32} {σ2 : Wd} (h : M_X9_log σ v1 v2 = some (r, σ2)) : Ct l (Zm V) yX9_log cX9_log 3 (some .int) 3 70 [.ref (zA (Zm V) 0), .int v1, .int v2] σ (some (.int r)) σ2 := by
  refine Ct_intro (own := RX9) zm_ok (by decide +kernel) rfl (Nat.le_of_ble_eq_true rfl) [(0, .ref (zA (Zm V) 0)), (1, .int v1), (2, .int v2)] rfl (fun K C R hKl hnL => ?_)
  have hN := nl_of hnL
  subst hKl
  refine Y_end h ?_
  unfold M_X9_log
  refine x_aload_n C 0 0 dX9_log_0 rfl ?_
  refine x_iload_n C 1 1 dX9_log_1 rfl ?_
  refine Y_bnd1 (fun r2 h2 => ?_)
  refine x_callVi C 2 [.int v1] [] rfl tw_1575 mv_X9_isCopy (Nat.le_of_ble_eq_true rfl) (Nat.le_of_ble_eq_true rfl) (Nat.le_of_ble_eq_true rfl) (Nat.le_of_ble_eq_true rfl) (km_0 V _) rfl dX9_log_2 (c_X9_isCopy V _ _ _ h2) ?_
  refine x_if_ne C 5 10 dX9_log_5 (by decide) (fun _ => ?_) (fun _ => ?_)
  · refine x_aload_n C 10 0 dX9_log_10 rfl ?_
    refine Y_bnd1 (fun s_11 h11 => ?_)
    refine x_callVv C 11 [] [] rfl tw_1579 mv_X9_copiesNow (Nat.le_of_ble_eq_true rfl) (Nat.le_of_ble_eq_true rfl) (Nat.le_of_ble_eq_true rfl) (Nat.le_of_ble_eq_true rfl) (km_0 V _) rfl dX9_log_11 (c_X9_copiesNow V _ _  h11) ?_
    refine x_aload_n C 14 0 dX9_log_14 rfl ?_
    refine x_iload_n C 15 1 dX9_log_15 rfl ?_
    refine Y_bnd1 (fun s_16 h16 => ?_)
    refine x_callVv C 16 [.int v1] [] rfl tw_1631 mv_X9_fillsLog (Nat.le_of_ble_eq_true rfl) (Nat.le_of_ble_eq_true rfl) (Nat.le_of_ble_eq_true rfl) (Nat.le_of_ble_eq_true rfl) (km_0 V _) rfl dX9_log_16 (c_X9_fillsLog V _ _ _ h16) ?_
    refine x_iload_n C 19 2 dX9_log_19 rfl ?_
    refine x_iconst C 20 dX9_log_20 ki_0 ?_
    refine x_aload_n C 21 0 dX9_log_21 rfl ?_
    refine fg_logMany C 22 dX9_log_22 ?_
    refine x_iconst C 25 dX9_log_25 ki_1 ?_
    refine x_isub C 26 dX9_log_26 ?_
    refine Y_bnd1 (fun r27 h27 => ?_)
    refine x_callSi C 27 [.int v2, .int (0 : Int32), .int ((gI s_16 0 45) - (1 : Int32))] [] rfl tw_1572 ms_X9_in (Nat.le_of_ble_eq_true rfl) (Nat.le_of_ble_eq_true rfl) (Nat.le_of_ble_eq_true rfl) dX9_log_27 (c_X9_in V _ _ _ _ _ h27) ?_
    refine x_if_eq C 30 42 dX9_log_30 (by decide) (fun _ => ?_) (fun _ => ?_)
    · refine x_iconst C 42 dX9_log_42 ki_m1 ?_
      exact x_iret2 C R 43 dX9_log_43
    · refine x_aload_n C 33 0 dX9_log_33 rfl ?_
      refine fg_logAt C 34 dX9_log_34 ?_
      refine x_iload_n C 37 2 dX9_log_37 rfl ?_
      refine x_iald C 38 (Nat.le_of_ble_eq_true rfl) (km_27 V _) dX9_log_38 (fun _ => ?_)
      refine x_goto C 39 43 dX9_log_39 (by decide) ?_
      exact x_iret2 C R 43 dX9_log_43
  · refine x_iconst C 8 dX9_log_8 ki_m1 ?_
    exact x_iret2 C R 9 dX9_log_9
def M_X9_whereOf_L2 (σ : Wd) (v1 : Int32) (v2 : Int32) : Option ((Int32) ⊕ ((Unit) ⊕ Int32)) :=
  if (gI σ 0 45) ≤ v2 then (some (.inr (.inl ()))) else (chk (ib v2 60) (if (gI σ 27 (ix v2)) ≠ v1 then (lt (v2 + (1 : Int32)) fun v2_22 => some (.inl v2_22)) else (some (.inr (.inr v2)))))
def M_X9_whereOf (σ : Wd) (v1 : Int32) : Option Int32 :=
  bnd1 (iter (fun s : Int32 => M_X9_whereOf_L2 σ v1 s) FU (0 : Int32)) (sx (un0 (some (-1 : Int32))) (fun q => some q))
set_option maxRecDepth 100000 in
set_option maxHeartbeats 4000000 in
theorem c_X9_whereOf (V : Vt) (l : Launch) (σ : Wd) (v1 : Int32) {r : Int32} (h : M_X9_whereOf σ v1 = some r) : Ct l (Zm V) yX9_whereOf cX9_whereOf 3 (some .int) 0 0 [.ref (zA (Zm V) 0), .int v1] σ (some (.int r)) σ := by
  refine Ct_intro (own := RX9) zm_ok (by decide +kernel) rfl (Nat.le_of_ble_eq_true rfl) [(0, .ref (zA (Zm V) 0)), (1, .int v1)] rfl (fun K C R hKl hnL => ?_)
  have hN := nl_of hnL
  subst hKl
  refine Y_end h ?_
  unfold M_X9_whereOf
  refine x_iconst C 0 dX9_whereOf_0 ki_0 ?_
  refine x_istore_n C 1 (L' := [(2, .int (0 : Int32)), (0, .ref (zA (Zm V) 0)), (1, .int v1)]) dX9_whereOf_1 rfl (hN _ (Nat.le_of_ble_eq_true rfl)) rfl ?_
  refine Y_sub [1, 2, 0] rfl ?_
  refine x_loop 2 (fun s : Int32 => σ) (fun s : Int32 => [(0, .ref (zA (Zm V) 0)), (1, .int v1), (2, .int s)]) (fun E2 hb2 hx2 s => ?_) FU (0 : Int32)
  obtain ⟨v2_2, rfl⟩ : ∃ z, z = s := ⟨s, rfl⟩
  show Y K (Zm V) (M_X9_whereOf_L2 σ v1 v2_2) E2 σ 2 [(0, .ref (zA (Zm V) 0)), (1, .int v1), (2, .int v2_2)] []
  unfold M_X9_whereOf_L2
  refine x_iload_n C 2 2 dX9_whereOf_2 rfl ?_
  refine x_aload_n C 3 0 dX9_whereOf_3 rfl ?_
  refine fg_logMany C 4 dX9_whereOf_4 ?_
  refine x_icmp_ge C 7 28 dX9_whereOf_7 (by decide) (fun _ => ?_) (fun _ => ?_)
  · refine x_exl0 hx2 ?_
    refine x_iconst C 28 dX9_whereOf_28 ki_m1 ?_
    exact x_iret1 C R 29 dX9_whereOf_29
  · refine x_aload_n C 10 0 dX9_whereOf_10 rfl ?_
    refine fg_logAt C 11 dX9_whereOf_11 ?_
    refine x_iload_n C 14 2 dX9_whereOf_14 rfl ?_
    refine x_iald C 15 (Nat.le_of_ble_eq_true rfl) (km_27 V _) dX9_whereOf_15 (fun _ => ?_)
    refine x_iload_n C 16 1 dX9_whereOf_16 rfl ?_
    refine x_icmp_ne C 17 22 dX9_whereOf_17 (by decide) (fun _ => ?_) (fun _ => ?_)
    · refine x_iinct C 22 2 (1 : Int32) (fun v2_22 => [(2, .int v2_22), (0, .ref (zA (Zm V) 0)), (1, .int v1)]) dX9_whereOf_22 rfl ki_1 (hN _ (Nat.le_of_ble_eq_true rfl)) (fun _ => rfl) (fun v2_22 => ?_)
      refine x_goto C 25 2 dX9_whereOf_25 (by decide) ?_
      refine Y_sub [1, 2, 0] rfl ?_
      exact x_back v2_22 (hb2 v2_22)
    · refine x_iload_n C 20 2 dX9_whereOf_20 rfl ?_
      refine x_exr hx2 _ ?_
      exact x_iret1 C R 21 dX9_whereOf_21
def M_X9_outcome (σ : Wd) (v1 : Int32) (v2 : Int32) : Option (Int32 × Wd) :=
  bnd1 (M_X9_isCopy σ v1) fun r2 => if r2 = 0 then (some ((-1 : Int32), σ)) else (bnd1 (M_X9_isWrite σ v2) fun r10 => if r10 ≠ 0 then (bnd1 (M_X9_copiesNow σ) fun s_19 => bnd1 (M_X9_doesAll s_19 v1) fun s_24 => bnd1 (M_X9_whereOf s_24 v2) fun r29 => if 0 ≤ r29 then (chk (ib r29 60) (some ((gI s_24 30 (ix r29)), s_24))) else (some ((-2 : Int32), s_24))) else (some ((-1 : Int32), σ)))
set_option maxRecDepth 100000 in
set_option maxHeartbeats 4000000 in
theorem c_X9_outcome (V : Vt) (l : Launch) (σ : Wd) (v1 : Int32) (v2 : Int32) {r : Int32} {σ2 : Wd} (h : M_X9_outcome σ v1 v2 = some (r, σ2)) : Ct l (Zm V) yX9_outcome cX9_outcome 4 (some .int) 5 121 [.ref (zA (Zm V) 0), .int v1, .int v2] σ (some (.int r)) σ2 := by
  refine Ct_intro (own := RX9) zm_ok (by decide +kernel) rfl (Nat.le_of_ble_eq_true rfl) [(0, .ref (zA (Zm V) 0)), (1, .int v1), (2, .int v2)] rfl (fun K C R hKl hnL => ?_)
  have hN := nl_of hnL
  subst hKl
  refine Y_end h ?_
  unfold M_X9_outcome
  refine x_aload_n C 0 0 dX9_outcome_0 rfl ?_
  refine x_iload_n C 1 1 dX9_outcome_1 rfl ?_
  refine Y_bnd1 (fun r2 h2 => ?_)
  refine x_callVi C 2 [.int v1] [] rfl tw_1575 mv_X9_isCopy (Nat.le_of_ble_eq_true rfl) (Nat.le_of_ble_eq_true rfl) (Nat.le_of_ble_eq_true rfl) (Nat.le_of_ble_eq_true rfl) (km_0 V _) rfl dX9_outcome_2 (c_X9_isCopy V _ _ _ h2) ?_
  refine x_if_eq C 5 16 dX9_outcome_5 (by decide) (fun _ => ?_) (fun _ => ?_)
  · refine x_iconst C 16 dX9_outcome_16 ki_m1 ?_
    exact x_iret2 C R 17 dX9_outcome_17
  · refine x_aload_n C 8 0 dX9_outcome_8 rfl ?_
    refine x_iload_n C 9 2 dX9_outcome_9 rfl ?_
    refine Y_bnd1 (fun r10 h10 => ?_)
    refine x_callVi C 10 [.int v2] [] rfl tw_1766 mv_X9_isWrite (Nat.le_of_ble_eq_true rfl) (Nat.le_of_ble_eq_true rfl) (Nat.le_of_ble_eq_true rfl) (Nat.le_of_ble_eq_true rfl) (km_0 V _) rfl dX9_outcome_10 (c_X9_isWrite V _ _ _ h10) ?_
    refine x_if_ne C 13 18 dX9_outcome_13 (by decide) (fun _ => ?_) (fun _ => ?_)
    · refine x_aload_n C 18 0 dX9_outcome_18 rfl ?_
      refine Y_bnd1 (fun s_19 h19 => ?_)
      refine x_callVv C 19 [] [] rfl tw_1579 mv_X9_copiesNow (Nat.le_of_ble_eq_true rfl) (Nat.le_of_ble_eq_true rfl) (Nat.le_of_ble_eq_true rfl) (Nat.le_of_ble_eq_true rfl) (km_0 V _) rfl dX9_outcome_19 (c_X9_copiesNow V _ _  h19) ?_
      refine x_aload_n C 22 0 dX9_outcome_22 rfl ?_
      refine x_iload_n C 23 1 dX9_outcome_23 rfl ?_
      refine Y_bnd1 (fun s_24 h24 => ?_)
      refine x_callVv C 24 [.int v1] [] rfl tw_1671 mv_X9_doesAll (Nat.le_of_ble_eq_true rfl) (Nat.le_of_ble_eq_true rfl) (Nat.le_of_ble_eq_true rfl) (Nat.le_of_ble_eq_true rfl) (km_0 V _) rfl dX9_outcome_24 (c_X9_doesAll V _ _ _ h24) ?_
      refine x_aload_n C 27 0 dX9_outcome_27 rfl ?_
      refine x_iload_n C 28 2 dX9_outcome_28 rfl ?_
      refine Y_bnd1 (fun r29 h29 => ?_)
      refine x_callVi C 29 [.int v2] [] rfl tw_1770 mv_X9_whereOf (Nat.le_of_ble_eq_true rfl) (Nat.le_of_ble_eq_true rfl) (Nat.le_of_ble_eq_true rfl) (Nat.le_of_ble_eq_true rfl) (km_0 V _) rfl dX9_outcome_29 (c_X9_whereOf V _ _ _ h29) ?_
      refine x_istore_n C 32 (L' := [(3, .int r29), (0, .ref (zA (Zm V) 0)), (1, .int v1), (2, .int v2)]) dX9_outcome_32 rfl (hN _ (Nat.le_of_ble_eq_true rfl)) rfl ?_
      refine x_iload_n C 33 0 dX9_outcome_33 rfl ?_
      refine x_if_ge C 34 42 dX9_outcome_34 (by decide) (fun _ => ?_) (fun _ => ?_)
      · refine x_aload_n C 42 1 dX9_outcome_42 rfl ?_
        refine fg_outAt C 43 dX9_outcome_43 ?_
        refine x_iload_n C 46 0 dX9_outcome_46 rfl ?_
        refine x_iald C 47 (Nat.le_of_ble_eq_true rfl) (km_30 V _) dX9_outcome_47 (fun _ => ?_)
        exact x_iret2 C R 48 dX9_outcome_48
      · refine x_bipush C 37 dX9_outcome_37 kb_m2 ?_
        refine x_goto C 39 48 dX9_outcome_39 (by decide) ?_
        exact x_iret2 C R 48 dX9_outcome_48
    · refine x_iconst C 16 dX9_outcome_16 ki_m1 ?_
      exact x_iret2 C R 17 dX9_outcome_17
def M_X9_write_L87 (σ : Wd) (v1 : Int32) (v3 : Int32) (v4 : Int32) : Option ((Int32 × Int32) ⊕ (Int32)) :=
  chk (ib (gI σ 0 18) 2) (if (gI σ 10 (ix (gI σ 0 18))) ≤ v4 then (some (.inr v3)) else (bnd1 (M_X9_doesHave σ v4 v1) fun r105 => if r105 = 0 then (lt (v4 + (1 : Int32)) fun v4_118 => some (.inl (v3, v4_118))) else (lt (v3 ||| ((1 : Int32) <<< (v4 &&& 31))) fun v3_117 => lt (v4 + (1 : Int32)) fun v4_118 => some (.inl (v3_117, v4_118)))))
def M_X9_write_L129 (σ : Wd) (v1 : Int32) (v3 : Int32) (v4 : Int32) : Option ((Int32 × Int32) ⊕ (Int32)) :=
  chk (ib (gI σ 0 18) 2) (if (gI σ 10 (ix (gI σ 0 18))) ≤ v4 then (some (.inr v3)) else (bnd1 (M_X9_isKnown σ v4 v1) fun r147 => if r147 = 0 then (lt (v4 + (1 : Int32)) fun v4_160 => some (.inl (v3, v4_160))) else (lt (v3 ||| ((1 : Int32) <<< (v4 &&& 31))) fun v3_159 => lt (v4 + (1 : Int32)) fun v4_160 => some (.inl (v3_159, v4_160)))))
def M_X9_write (σ : Wd) (v1 : Int32) (v2 : Int32) : Option (Int32 × Wd) :=
  bnd1 (M_X9_isWrite σ v1) fun r2 => if r2 ≠ 0 then (bnd1 (M_X9_copiesNow σ) fun s_11 => if v2 = (0 : Int32) then (bnd1 (M_X9_ofWrite s_11 v1 (0 : Int32)) fun r59 => some (r59, s_11)) else (if v2 = (1 : Int32) then (bnd1 (M_X9_ofWrite s_11 v1 (2 : Int32)) fun r66 => some (r66, s_11)) else (if v2 = (2 : Int32) then (bnd1 (M_X9_ofWrite s_11 v1 (3 : Int32)) fun r73 => some (r73, s_11)) else (if v2 = (3 : Int32) then (bnd1 (M_X9_ofWrite s_11 v1 (4 : Int32)) fun r80 => some (r80, s_11)) else (if v2 = (4 : Int32) then (bnd1 (iter (fun s : Int32 × Int32 => M_X9_write_L87 s_11 v1 s.1 s.2) FU ((0 : Int32), (0 : Int32))) (un1 fun x3_87 => (some (x3_87, s_11)))) else (if v2 = (5 : Int32) then (bnd1 (iter (fun s : Int32 × Int32 => M_X9_write_L129 s_11 v1 s.1 s.2) FU ((0 : Int32), (0 : Int32))) (un1 fun x3_129 => (some (x3_129, s_11)))) else (some ((-1 : Int32), s_11)))))))) else (some ((-1 : Int32), σ))
set_option maxRecDepth 100000 in
set_option maxHeartbeats 4000000 in
theorem c_X9_write (V : Vt) (l : Launch) (σ : Wd) (v1 : Int32) (v2 : Int32) {r : Int32} {σ2 : Wd} (h : M_X9_write σ v1 v2 = some (r, σ2)) : Ct l (Zm V) yX9_write cX9_write 5 (some .int) 2 44 [.ref (zA (Zm V) 0), .int v1, .int v2] σ (some (.int r)) σ2 := by
  refine Ct_intro (own := RX9) zm_ok (by decide +kernel) rfl (Nat.le_of_ble_eq_true rfl) [(0, .ref (zA (Zm V) 0)), (1, .int v1), (2, .int v2)] rfl (fun K C R hKl hnL => ?_)
  have hN := nl_of hnL
  subst hKl
  refine Y_end h ?_
  unfold M_X9_write
  refine x_aload_n C 0 0 dX9_write_0 rfl ?_
  refine x_iload_n C 1 1 dX9_write_1 rfl ?_
  refine Y_bnd1 (fun r2 h2 => ?_)
  refine x_callVi C 2 [.int v1] [] rfl tw_1766 mv_X9_isWrite (Nat.le_of_ble_eq_true rfl) (Nat.le_of_ble_eq_true rfl) (Nat.le_of_ble_eq_true rfl) (Nat.le_of_ble_eq_true rfl) (km_0 V _) rfl dX9_write_2 (c_X9_isWrite V _ _ _ h2) ?_
  refine x_if_ne C 5 10 dX9_write_5 (by decide) (fun _ => ?_) (fun _ => ?_)
  · refine x_aload_n C 10 0 dX9_write_10 rfl ?_
    refine Y_bnd1 (fun s_11 h11 => ?_)
    refine x_callVv C 11 [] [] rfl tw_1579 mv_X9_copiesNow (Nat.le_of_ble_eq_true rfl) (Nat.le_of_ble_eq_true rfl) (Nat.le_of_ble_eq_true rfl) (Nat.le_of_ble_eq_true rfl) (km_0 V _) rfl dX9_write_11 (c_X9_copiesNow V _ _  h11) ?_
    refine x_iconst C 14 dX9_write_14 ki_0 ?_
    refine x_istore_n C 15 (L' := [(3, .int (0 : Int32)), (0, .ref (zA (Zm V) 0)), (1, .int v1), (2, .int v2)]) dX9_write_15 rfl (hN _ (Nat.le_of_ble_eq_true rfl)) rfl ?_
    refine x_iload_n C 16 3 dX9_write_16 rfl ?_
    refine Y_ite (fun c17 => ?_) (fun c17_0 => ?_)
    · refine x_tswIn C 17 56 (0 : Int32) c17 dX9_write_17 (by decide) (by decide) rfl (by decide) ?_
      refine x_aload_n C 56 1 dX9_write_56 rfl ?_
      refine x_iload_n C 57 2 dX9_write_57 rfl ?_
      refine x_iconst C 58 dX9_write_58 ki_0 ?_
      refine Y_bnd1 (fun r59 h59 => ?_)
      refine x_callVi C 59 [.int v1, .int (0 : Int32)] [] rfl tw_1611 mv_X9_ofWrite (Nat.le_of_ble_eq_true rfl) (Nat.le_of_ble_eq_true rfl) (Nat.le_of_ble_eq_true rfl) (Nat.le_of_ble_eq_true rfl) (km_0 V _) rfl dX9_write_59 (c_X9_ofWrite V _ _ _ _ h59) ?_
      exact x_iret2 C R 62 dX9_write_62
    refine Y_ite (fun c17 => ?_) (fun c17_1 => ?_)
    · refine x_tswIn C 17 63 (1 : Int32) c17 dX9_write_17 (by decide) (by decide) rfl (by decide) ?_
      refine x_aload_n C 63 1 dX9_write_63 rfl ?_
      refine x_iload_n C 64 2 dX9_write_64 rfl ?_
      refine x_iconst C 65 dX9_write_65 ki_2 ?_
      refine Y_bnd1 (fun r66 h66 => ?_)
      refine x_callVi C 66 [.int v1, .int (2 : Int32)] [] rfl tw_1611 mv_X9_ofWrite (Nat.le_of_ble_eq_true rfl) (Nat.le_of_ble_eq_true rfl) (Nat.le_of_ble_eq_true rfl) (Nat.le_of_ble_eq_true rfl) (km_0 V _) rfl dX9_write_66 (c_X9_ofWrite V _ _ _ _ h66) ?_
      exact x_iret2 C R 69 dX9_write_69
    refine Y_ite (fun c17 => ?_) (fun c17_2 => ?_)
    · refine x_tswIn C 17 70 (2 : Int32) c17 dX9_write_17 (by decide) (by decide) rfl (by decide) ?_
      refine x_aload_n C 70 1 dX9_write_70 rfl ?_
      refine x_iload_n C 71 2 dX9_write_71 rfl ?_
      refine x_iconst C 72 dX9_write_72 ki_3 ?_
      refine Y_bnd1 (fun r73 h73 => ?_)
      refine x_callVi C 73 [.int v1, .int (3 : Int32)] [] rfl tw_1611 mv_X9_ofWrite (Nat.le_of_ble_eq_true rfl) (Nat.le_of_ble_eq_true rfl) (Nat.le_of_ble_eq_true rfl) (Nat.le_of_ble_eq_true rfl) (km_0 V _) rfl dX9_write_73 (c_X9_ofWrite V _ _ _ _ h73) ?_
      exact x_iret2 C R 76 dX9_write_76
    refine Y_ite (fun c17 => ?_) (fun c17_3 => ?_)
    · refine x_tswIn C 17 77 (3 : Int32) c17 dX9_write_17 (by decide) (by decide) rfl (by decide) ?_
      refine x_aload_n C 77 1 dX9_write_77 rfl ?_
      refine x_iload_n C 78 2 dX9_write_78 rfl ?_
      refine x_iconst C 79 dX9_write_79 ki_4 ?_
      refine Y_bnd1 (fun r80 h80 => ?_)
      refine x_callVi C 80 [.int v1, .int (4 : Int32)] [] rfl tw_1611 mv_X9_ofWrite (Nat.le_of_ble_eq_true rfl) (Nat.le_of_ble_eq_true rfl) (Nat.le_of_ble_eq_true rfl) (Nat.le_of_ble_eq_true rfl) (km_0 V _) rfl dX9_write_80 (c_X9_ofWrite V _ _ _ _ h80) ?_
      exact x_iret2 C R 83 dX9_write_83
    refine Y_ite (fun c17 => ?_) (fun c17_4 => ?_)
    · refine x_tswIn C 17 84 (4 : Int32) c17 dX9_write_17 (by decide) (by decide) rfl (by decide) ?_
      refine x_iconst C 84 dX9_write_84 ki_0 ?_
      refine x_istore C 85 (L' := [(4, .int (0 : Int32)), (3, .int (0 : Int32)), (0, .ref (zA (Zm V) 0)), (1, .int v1), (2, .int v2)]) dX9_write_85 (hN _ (Nat.le_of_ble_eq_true rfl)) rfl ?_
      refine Y_sub [2, 3, 1, 0] rfl ?_
      refine x_loop 87 (fun s : Int32 × Int32 => s_11) (fun s : Int32 × Int32 => [(0, .ref (zA (Zm V) 0)), (1, .int v1), (3, .int s.1), (4, .int s.2)]) (fun E87 hb87 hx87 s => ?_) FU ((0 : Int32), (0 : Int32))
      obtain ⟨v3_87, v4_87⟩ := s
      show Y K (Zm V) (M_X9_write_L87 s_11 v1 v3_87 v4_87) E87 s_11 87 [(0, .ref (zA (Zm V) 0)), (1, .int v1), (3, .int v3_87), (4, .int v4_87)] []
      unfold M_X9_write_L87
      refine x_iload C 87 3 dX9_write_87 rfl ?_
      refine x_aload_n C 89 0 dX9_write_89 rfl ?_
      refine fg_copies C 90 dX9_write_90 ?_
      refine x_aload_n C 93 0 dX9_write_93 rfl ?_
      refine fg_live C 94 dX9_write_94 ?_
      refine x_iald C 97 (Nat.le_of_ble_eq_true rfl) (km_10 V _) dX9_write_97 (fun _ => ?_)
      refine x_icmp_ge C 98 124 dX9_write_98 (by decide) (fun _ => ?_) (fun _ => ?_)
      · refine x_ex1 hx87 v3_87 ?_
        refine x_iload_n C 124 2 dX9_write_124 rfl ?_
        exact x_iret2 C R 125 dX9_write_125
      · refine x_aload_n C 101 0 dX9_write_101 rfl ?_
        refine x_iload C 102 3 dX9_write_102 rfl ?_
        refine x_iload_n C 104 1 dX9_write_104 rfl ?_
        refine Y_bnd1 (fun r105 h105 => ?_)
        refine x_callVi C 105 [.int v4_87, .int v1] [] rfl tw_1607 mv_X9_doesHave (Nat.le_of_ble_eq_true rfl) (Nat.le_of_ble_eq_true rfl) (Nat.le_of_ble_eq_true rfl) (Nat.le_of_ble_eq_true rfl) (km_0 V _) rfl dX9_write_105 (c_X9_doesHave V _ _ _ _ h105) ?_
        refine x_if_eq C 108 118 dX9_write_108 (by decide) (fun _ => ?_) (fun _ => ?_)
        · refine x_iinct C 118 3 (1 : Int32) (fun v4_118 => [(4, .int v4_118), (0, .ref (zA (Zm V) 0)), (1, .int v1), (3, .int v3_87)]) dX9_write_118 rfl ki_1 (hN _ (Nat.le_of_ble_eq_true rfl)) (fun _ => rfl) (fun v4_118 => ?_)
          refine x_goto C 121 87 dX9_write_121 (by decide) ?_
          refine Y_sub [1, 2, 3, 0] rfl ?_
          exact x_back (v3_87, v4_118) (hb87 (v3_87, v4_118))
        · refine x_iload_n C 111 2 dX9_write_111 rfl ?_
          refine x_iconst C 112 dX9_write_112 ki_1 ?_
          refine x_iload C 113 3 dX9_write_113 rfl ?_
          refine x_ishl C 115 dX9_write_115 ?_
          refine x_ior C 116 dX9_write_116 ?_
          refine x_istore_nt C 117 (fun v3_117 => [(3, .int v3_117), (0, .ref (zA (Zm V) 0)), (1, .int v1), (4, .int v4_87)]) dX9_write_117 rfl (hN _ (Nat.le_of_ble_eq_true rfl)) (fun _ => rfl) (fun v3_117 => ?_)
          refine x_iinct C 118 3 (1 : Int32) (fun v4_118 => [(4, .int v4_118), (3, .int v3_117), (0, .ref (zA (Zm V) 0)), (1, .int v1)]) dX9_write_118 rfl ki_1 (hN _ (Nat.le_of_ble_eq_true rfl)) (fun _ => rfl) (fun v4_118 => ?_)
          refine x_goto C 121 87 dX9_write_121 (by decide) ?_
          refine Y_sub [2, 3, 1, 0] rfl ?_
          exact x_back (v3_117, v4_118) (hb87 (v3_117, v4_118))
    refine Y_ite (fun c17 => ?_) (fun c17_5 => ?_)
    · refine x_tswIn C 17 126 (5 : Int32) c17 dX9_write_17 (by decide) (by decide) rfl (by decide) ?_
      refine x_iconst C 126 dX9_write_126 ki_0 ?_
      refine x_istore C 127 (L' := [(4, .int (0 : Int32)), (3, .int (0 : Int32)), (0, .ref (zA (Zm V) 0)), (1, .int v1), (2, .int v2)]) dX9_write_127 (hN _ (Nat.le_of_ble_eq_true rfl)) rfl ?_
      refine Y_sub [2, 3, 1, 0] rfl ?_
      refine x_loop 129 (fun s : Int32 × Int32 => s_11) (fun s : Int32 × Int32 => [(0, .ref (zA (Zm V) 0)), (1, .int v1), (3, .int s.1), (4, .int s.2)]) (fun E129 hb129 hx129 s => ?_) FU ((0 : Int32), (0 : Int32))
      obtain ⟨v3_129, v4_129⟩ := s
      show Y K (Zm V) (M_X9_write_L129 s_11 v1 v3_129 v4_129) E129 s_11 129 [(0, .ref (zA (Zm V) 0)), (1, .int v1), (3, .int v3_129), (4, .int v4_129)] []
      unfold M_X9_write_L129
      refine x_iload C 129 3 dX9_write_129 rfl ?_
      refine x_aload_n C 131 0 dX9_write_131 rfl ?_
      refine fg_copies C 132 dX9_write_132 ?_
      refine x_aload_n C 135 0 dX9_write_135 rfl ?_
      refine fg_live C 136 dX9_write_136 ?_
      refine x_iald C 139 (Nat.le_of_ble_eq_true rfl) (km_10 V _) dX9_write_139 (fun _ => ?_)
      refine x_icmp_ge C 140 166 dX9_write_140 (by decide) (fun _ => ?_) (fun _ => ?_)
      · refine x_ex1 hx129 v3_129 ?_
        refine x_iload_n C 166 2 dX9_write_166 rfl ?_
        exact x_iret2 C R 167 dX9_write_167
      · refine x_aload_n C 143 0 dX9_write_143 rfl ?_
        refine x_iload C 144 3 dX9_write_144 rfl ?_
        refine x_iload_n C 146 1 dX9_write_146 rfl ?_
        refine Y_bnd1 (fun r147 h147 => ?_)
        refine x_callVi C 147 [.int v4_129, .int v1] [] rfl tw_1639 mv_X9_isKnown (Nat.le_of_ble_eq_true rfl) (Nat.le_of_ble_eq_true rfl) (Nat.le_of_ble_eq_true rfl) (Nat.le_of_ble_eq_true rfl) (km_0 V _) rfl dX9_write_147 (c_X9_isKnown V _ _ _ _ h147) ?_
        refine x_if_eq C 150 160 dX9_write_150 (by decide) (fun _ => ?_) (fun _ => ?_)
        · refine x_iinct C 160 3 (1 : Int32) (fun v4_160 => [(4, .int v4_160), (0, .ref (zA (Zm V) 0)), (1, .int v1), (3, .int v3_129)]) dX9_write_160 rfl ki_1 (hN _ (Nat.le_of_ble_eq_true rfl)) (fun _ => rfl) (fun v4_160 => ?_)
          refine x_goto C 163 129 dX9_write_163 (by decide) ?_
          refine Y_sub [1, 2, 3, 0] rfl ?_
          exact x_back (v3_129, v4_160) (hb129 (v3_129, v4_160))
        · refine x_iload_n C 153 2 dX9_write_153 rfl ?_
          refine x_iconst C 154 dX9_write_154 ki_1 ?_
          refine x_iload C 155 3 dX9_write_155 rfl ?_
          refine x_ishl C 157 dX9_write_157 ?_
          refine x_ior C 158 dX9_write_158 ?_
          refine x_istore_nt C 159 (fun v3_159 => [(3, .int v3_159), (0, .ref (zA (Zm V) 0)), (1, .int v1), (4, .int v4_129)]) dX9_write_159 rfl (hN _ (Nat.le_of_ble_eq_true rfl)) (fun _ => rfl) (fun v3_159 => ?_)
          refine x_iinct C 160 3 (1 : Int32) (fun v4_160 => [(4, .int v4_160), (3, .int v3_159), (0, .ref (zA (Zm V) 0)), (1, .int v1)]) dX9_write_160 rfl ki_1 (hN _ (Nat.le_of_ble_eq_true rfl)) (fun _ => rfl) (fun v4_160 => ?_)
          refine x_goto C 163 129 dX9_write_163 (by decide) ?_
          refine Y_sub [2, 3, 1, 0] rfl ?_
          exact x_back (v3_159, v4_160) (hb129 (v3_159, v4_160))
    · refine x_tswOut C 17 168 [(0 : Int32), (1 : Int32), (2 : Int32), (3 : Int32), (4 : Int32), (5 : Int32)] dX9_write_17 (by decide) (List.forall_mem_cons.mpr ⟨c17_0, (List.forall_mem_cons.mpr ⟨c17_1, (List.forall_mem_cons.mpr ⟨c17_2, (List.forall_mem_cons.mpr ⟨c17_3, (List.forall_mem_cons.mpr ⟨c17_4, (List.forall_mem_cons.mpr ⟨c17_5, (List.forall_mem_nil _)⟩)⟩)⟩)⟩)⟩)⟩) (by decide) ?_
      refine x_iconst C 168 dX9_write_168 ki_m1 ?_
      exact x_iret2 C R 169 dX9_write_169
  · refine x_iconst C 8 dX9_write_8 ki_m1 ?_
    exact x_iret2 C R 9 dX9_write_9
def M_X9_with (σ : Wd) (v1 : Int32) : Option Int32 :=
  bnd1 (M_X9_isWrite σ v1) fun r2 => if r2 = 0 then (some (0 : Int32)) else (chk (ib (((110 : Int32) + ((5 : Int32) * v1)) + (1 : Int32)) 770) (some (gI σ 25 (ix (((110 : Int32) + ((5 : Int32) * v1)) + (1 : Int32))))))
set_option maxRecDepth 100000 in
set_option maxHeartbeats 4000000 in
theorem c_X9_with (V : Vt) (l : Launch) (σ : Wd) (v1 : Int32) {r : Int32} (h : M_X9_with σ v1 = some r) : Ct l (Zm V) yX9_with cX9_with 2 (some .int) 2 43 [.ref (zA (Zm V) 0), .int v1] σ (some (.int r)) σ := by
  refine Ct_intro (own := RX9) zm_ok (by decide +kernel) rfl (Nat.le_of_ble_eq_true rfl) [(0, .ref (zA (Zm V) 0)), (1, .int v1)] rfl (fun K C R hKl hnL => ?_)
  have hN := nl_of hnL
  subst hKl
  refine Y_end h ?_
  unfold M_X9_with
  refine x_aload_n C 0 0 dX9_with_0 rfl ?_
  refine x_iload_n C 1 1 dX9_with_1 rfl ?_
  refine Y_bnd1 (fun r2 h2 => ?_)
  refine x_callVi C 2 [.int v1] [] rfl tw_1766 mv_X9_isWrite (Nat.le_of_ble_eq_true rfl) (Nat.le_of_ble_eq_true rfl) (Nat.le_of_ble_eq_true rfl) (Nat.le_of_ble_eq_true rfl) (km_0 V _) rfl dX9_with_2 (c_X9_isWrite V _ _ _ h2) ?_
  refine x_if_eq C 5 24 dX9_with_5 (by decide) (fun _ => ?_) (fun _ => ?_)
  · refine x_iconst C 24 dX9_with_24 ki_0 ?_
    exact x_iret1 C R 25 dX9_with_25
  · refine x_aload_n C 8 0 dX9_with_8 rfl ?_
    refine fg_now C 9 dX9_with_9 ?_
    refine x_bipush C 12 dX9_with_12 kb_110 ?_
    refine x_iconst C 14 dX9_with_14 ki_5 ?_
    refine x_iload_n C 15 1 dX9_with_15 rfl ?_
    refine x_imul C 16 dX9_with_16 ?_
    refine x_iadd C 17 dX9_with_17 ?_
    refine x_iconst C 18 dX9_with_18 ki_1 ?_
    refine x_iadd C 19 dX9_with_19 ?_
    refine x_iald C 20 (Nat.le_of_ble_eq_true rfl) (km_25 V _) dX9_with_20 (fun _ => ?_)
    refine x_goto C 21 25 dX9_with_21 (by decide) ?_
    exact x_iret1 C R 25 dX9_with_25
def M_X9_copy (σ : Wd) (v1 : Int32) (v2 : Int32) : Option (Int32 × Wd) :=
  bnd1 (M_X9_isCopy σ v1) fun r2 => if r2 = 0 then (some ((-1 : Int32), σ)) else (bnd1 (M_X9_in v2 (0 : Int32) (8 : Int32)) fun r12 => if r12 ≠ 0 then (bnd1 (M_X9_copiesNow σ) fun s_21 => bnd1 (M_X9_doesAll s_21 v1) fun s_26 => if v2 = (0 : Int32) then (bnd1 (M_X9_clockOf s_26 v1) fun r82 => some (r82, s_26)) else (if v2 = (1 : Int32) then (some ((gI s_26 0 45), s_26)) else (if v2 = (7 : Int32) then (bnd1 (M_X9_outcomes s_26 (1 : Int32) (1 : Int32)) fun r94 => some (r94, s_26)) else (if v2 = (8 : Int32) then (bnd1 (M_X9_outcomes s_26 (2 : Int32) (3 : Int32)) fun r101 => some (r101, s_26)) else (bnd1 (M_X9_ofCopy s_26 v1 (v2 - (2 : Int32))) fun r110 => some (r110, s_26)))))) else (some ((-1 : Int32), σ)))
set_option maxRecDepth 100000 in
set_option maxHeartbeats 4000000 in
theorem c_X9_copy (V : Vt) (l : Launch) (σ : Wd) (v1 : Int32) (v2 : Int32) {r : Int32} {σ2 : Wd} (h : M_X9_copy σ v1 v2 = some (r, σ2)) : Ct l (Zm V) yX9_copy cX9_copy 3 (some .int) 5 121 [.ref (zA (Zm V) 0), .int v1, .int v2] σ (some (.int r)) σ2 := by
  refine Ct_intro (own := RX9) zm_ok (by decide +kernel) rfl (Nat.le_of_ble_eq_true rfl) [(0, .ref (zA (Zm V) 0)), (1, .int v1), (2, .int v2)] rfl (fun K C R hKl hnL => ?_)
  have hN := nl_of hnL
  subst hKl
  refine Y_end h ?_
  unfold M_X9_copy
  refine x_aload_n C 0 0 dX9_copy_0 rfl ?_
  refine x_iload_n C 1 1 dX9_copy_1 rfl ?_
  refine Y_bnd1 (fun r2 h2 => ?_)
  refine x_callVi C 2 [.int v1] [] rfl tw_1575 mv_X9_isCopy (Nat.le_of_ble_eq_true rfl) (Nat.le_of_ble_eq_true rfl) (Nat.le_of_ble_eq_true rfl) (Nat.le_of_ble_eq_true rfl) (km_0 V _) rfl dX9_copy_2 (c_X9_isCopy V _ _ _ h2) ?_
  refine x_if_eq C 5 18 dX9_copy_5 (by decide) (fun _ => ?_) (fun _ => ?_)
  · refine x_iconst C 18 dX9_copy_18 ki_m1 ?_
    exact x_iret2 C R 19 dX9_copy_19
  · refine x_iload_n C 8 2 dX9_copy_8 rfl ?_
    refine x_iconst C 9 dX9_copy_9 ki_0 ?_
    refine x_bipush C 10 dX9_copy_10 kb_8 ?_
    refine Y_bnd1 (fun r12 h12 => ?_)
    refine x_callSi C 12 [.int v2, .int (0 : Int32), .int (8 : Int32)] [] rfl tw_1572 ms_X9_in (Nat.le_of_ble_eq_true rfl) (Nat.le_of_ble_eq_true rfl) (Nat.le_of_ble_eq_true rfl) dX9_copy_12 (c_X9_in V _ _ _ _ _ h12) ?_
    refine x_if_ne C 15 20 dX9_copy_15 (by decide) (fun _ => ?_) (fun _ => ?_)
    · refine x_aload_n C 20 0 dX9_copy_20 rfl ?_
      refine Y_bnd1 (fun s_21 h21 => ?_)
      refine x_callVv C 21 [] [] rfl tw_1579 mv_X9_copiesNow (Nat.le_of_ble_eq_true rfl) (Nat.le_of_ble_eq_true rfl) (Nat.le_of_ble_eq_true rfl) (Nat.le_of_ble_eq_true rfl) (km_0 V _) rfl dX9_copy_21 (c_X9_copiesNow V _ _  h21) ?_
      refine x_aload_n C 24 0 dX9_copy_24 rfl ?_
      refine x_iload_n C 25 1 dX9_copy_25 rfl ?_
      refine Y_bnd1 (fun s_26 h26 => ?_)
      refine x_callVv C 26 [.int v1] [] rfl tw_1671 mv_X9_doesAll (Nat.le_of_ble_eq_true rfl) (Nat.le_of_ble_eq_true rfl) (Nat.le_of_ble_eq_true rfl) (Nat.le_of_ble_eq_true rfl) (km_0 V _) rfl dX9_copy_26 (c_X9_doesAll V _ _ _ h26) ?_
      refine x_iload_n C 29 2 dX9_copy_29 rfl ?_
      refine Y_ite (fun c30 => ?_) (fun c30_0 => ?_)
      · refine x_tswIn C 30 80 (0 : Int32) c30 dX9_copy_30 (by decide) (by decide) rfl (by decide) ?_
        refine x_aload_n C 80 0 dX9_copy_80 rfl ?_
        refine x_iload_n C 81 1 dX9_copy_81 rfl ?_
        refine Y_bnd1 (fun r82 h82 => ?_)
        refine x_callVi C 82 [.int v1] [] rfl tw_1623 mv_X9_clockOf (Nat.le_of_ble_eq_true rfl) (Nat.le_of_ble_eq_true rfl) (Nat.le_of_ble_eq_true rfl) (Nat.le_of_ble_eq_true rfl) (km_0 V _) rfl dX9_copy_82 (c_X9_clockOf V _ _ _ h82) ?_
        exact x_iret2 C R 85 dX9_copy_85
      refine Y_ite (fun c30 => ?_) (fun c30_1 => ?_)
      · refine x_tswIn C 30 86 (1 : Int32) c30 dX9_copy_30 (by decide) (by decide) rfl (by decide) ?_
        refine x_aload_n C 86 0 dX9_copy_86 rfl ?_
        refine fg_logMany C 87 dX9_copy_87 ?_
        exact x_iret2 C R 90 dX9_copy_90
      refine Y_ite (fun c30 => ?_) (fun c30_7 => ?_)
      · refine x_tswIn C 30 91 (7 : Int32) c30 dX9_copy_30 (by decide) (by decide) rfl (by decide) ?_
        refine x_aload_n C 91 0 dX9_copy_91 rfl ?_
        refine x_iconst C 92 dX9_copy_92 ki_1 ?_
        refine x_iconst C 93 dX9_copy_93 ki_1 ?_
        refine Y_bnd1 (fun r94 h94 => ?_)
        refine x_callVi C 94 [.int (1 : Int32), .int (1 : Int32)] [] rfl tw_1786 mv_X9_outcomes (Nat.le_of_ble_eq_true rfl) (Nat.le_of_ble_eq_true rfl) (Nat.le_of_ble_eq_true rfl) (Nat.le_of_ble_eq_true rfl) (km_0 V _) rfl dX9_copy_94 (c_X9_outcomes V _ _ _ _ h94) ?_
        exact x_iret2 C R 97 dX9_copy_97
      refine Y_ite (fun c30 => ?_) (fun c30_8 => ?_)
      · refine x_tswIn C 30 98 (8 : Int32) c30 dX9_copy_30 (by decide) (by decide) rfl (by decide) ?_
        refine x_aload_n C 98 0 dX9_copy_98 rfl ?_
        refine x_iconst C 99 dX9_copy_99 ki_2 ?_
        refine x_iconst C 100 dX9_copy_100 ki_3 ?_
        refine Y_bnd1 (fun r101 h101 => ?_)
        refine x_callVi C 101 [.int (2 : Int32), .int (3 : Int32)] [] rfl tw_1786 mv_X9_outcomes (Nat.le_of_ble_eq_true rfl) (Nat.le_of_ble_eq_true rfl) (Nat.le_of_ble_eq_true rfl) (Nat.le_of_ble_eq_true rfl) (km_0 V _) rfl dX9_copy_101 (c_X9_outcomes V _ _ _ _ h101) ?_
        exact x_iret2 C R 104 dX9_copy_104
      · refine x_tswOut C 30 105 [(0 : Int32), (1 : Int32), (7 : Int32), (8 : Int32)] dX9_copy_30 (by decide) (List.forall_mem_cons.mpr ⟨c30_0, (List.forall_mem_cons.mpr ⟨c30_1, (List.forall_mem_cons.mpr ⟨c30_7, (List.forall_mem_cons.mpr ⟨c30_8, (List.forall_mem_nil _)⟩)⟩)⟩)⟩) (by decide) ?_
        refine x_aload_n C 105 0 dX9_copy_105 rfl ?_
        refine x_iload_n C 106 1 dX9_copy_106 rfl ?_
        refine x_iload_n C 107 2 dX9_copy_107 rfl ?_
        refine x_iconst C 108 dX9_copy_108 ki_2 ?_
        refine x_isub C 109 dX9_copy_109 ?_
        refine Y_bnd1 (fun r110 h110 => ?_)
        refine x_callVi C 110 [.int v1, .int (v2 - (2 : Int32))] [] rfl tw_1635 mv_X9_ofCopy (Nat.le_of_ble_eq_true rfl) (Nat.le_of_ble_eq_true rfl) (Nat.le_of_ble_eq_true rfl) (Nat.le_of_ble_eq_true rfl) (km_0 V _) rfl dX9_copy_110 (c_X9_ofCopy V _ _ _ _ h110) ?_
        exact x_iret2 C R 113 dX9_copy_113
    · refine x_iconst C 18 dX9_copy_18 ki_m1 ?_
      exact x_iret2 C R 19 dX9_copy_19
def M_X9_vector (σ : Wd) (v1 : Int32) (v2 : Int32) : Option (Int32 × Wd) :=
  bnd1 (M_X9_copiesNow σ) fun s_1 => bnd1 (M_X9_isCopy s_1 v1) fun r6 => if r6 = 0 then (some ((-1 : Int32), s_1)) else (bnd1 (M_X9_isCopy s_1 v2) fun r14 => if r14 = 0 then (some ((-1 : Int32), s_1)) else (bnd1 (M_X9_vectorOf s_1 v1 v2) fun r23 => some (r23, s_1)))
set_option maxRecDepth 100000 in
set_option maxHeartbeats 4000000 in
theorem c_X9_vector (V : Vt) (l : Launch) (σ : Wd) (v1 : Int32) (v2 : Int32) {r : Int32} {σ2 : Wd} (h : M_X9_vector σ v1 v2 = some (r, σ2)) : Ct l (Zm V) yX9_vector cX9_vector 3 (some .int) 2 46 [.ref (zA (Zm V) 0), .int v1, .int v2] σ (some (.int r)) σ2 := by
  refine Ct_intro (own := RX9) zm_ok (by decide +kernel) rfl (Nat.le_of_ble_eq_true rfl) [(0, .ref (zA (Zm V) 0)), (1, .int v1), (2, .int v2)] rfl (fun K C R hKl hnL => ?_)
  have hN := nl_of hnL
  subst hKl
  refine Y_end h ?_
  unfold M_X9_vector
  refine x_aload_n C 0 0 dX9_vector_0 rfl ?_
  refine Y_bnd1 (fun s_1 h1 => ?_)
  refine x_callVv C 1 [] [] rfl tw_1579 mv_X9_copiesNow (Nat.le_of_ble_eq_true rfl) (Nat.le_of_ble_eq_true rfl) (Nat.le_of_ble_eq_true rfl) (Nat.le_of_ble_eq_true rfl) (km_0 V _) rfl dX9_vector_1 (c_X9_copiesNow V _ _  h1) ?_
  refine x_aload_n C 4 0 dX9_vector_4 rfl ?_
  refine x_iload_n C 5 1 dX9_vector_5 rfl ?_
  refine Y_bnd1 (fun r6 h6 => ?_)
  refine x_callVi C 6 [.int v1] [] rfl tw_1575 mv_X9_isCopy (Nat.le_of_ble_eq_true rfl) (Nat.le_of_ble_eq_true rfl) (Nat.le_of_ble_eq_true rfl) (Nat.le_of_ble_eq_true rfl) (km_0 V _) rfl dX9_vector_6 (c_X9_isCopy V _ _ _ h6) ?_
  refine x_if_eq C 9 29 dX9_vector_9 (by decide) (fun _ => ?_) (fun _ => ?_)
  · refine x_iconst C 29 dX9_vector_29 ki_m1 ?_
    exact x_iret2 C R 30 dX9_vector_30
  · refine x_aload_n C 12 0 dX9_vector_12 rfl ?_
    refine x_iload_n C 13 2 dX9_vector_13 rfl ?_
    refine Y_bnd1 (fun r14 h14 => ?_)
    refine x_callVi C 14 [.int v2] [] rfl tw_1575 mv_X9_isCopy (Nat.le_of_ble_eq_true rfl) (Nat.le_of_ble_eq_true rfl) (Nat.le_of_ble_eq_true rfl) (Nat.le_of_ble_eq_true rfl) (km_0 V _) rfl dX9_vector_14 (c_X9_isCopy V _ _ _ h14) ?_
    refine x_if_eq C 17 29 dX9_vector_17 (by decide) (fun _ => ?_) (fun _ => ?_)
    · refine x_iconst C 29 dX9_vector_29 ki_m1 ?_
      exact x_iret2 C R 30 dX9_vector_30
    · refine x_aload_n C 20 0 dX9_vector_20 rfl ?_
      refine x_iload_n C 21 1 dX9_vector_21 rfl ?_
      refine x_iload_n C 22 2 dX9_vector_22 rfl ?_
      refine Y_bnd1 (fun r23 h23 => ?_)
      refine x_callVi C 23 [.int v1, .int v2] [] rfl tw_1603 mv_X9_vectorOf (Nat.le_of_ble_eq_true rfl) (Nat.le_of_ble_eq_true rfl) (Nat.le_of_ble_eq_true rfl) (Nat.le_of_ble_eq_true rfl) (km_0 V _) rfl dX9_vector_23 (c_X9_vectorOf V _ _ _ _ h23) ?_
      refine x_goto C 26 30 dX9_vector_26 (by decide) ?_
      exact x_iret2 C R 30 dX9_vector_30
def M_X9_session (σ : Wd) (v1 : Int32) (v2 : Int32) : Option Int32 :=
  bnd1 (M_X9_isSession v1) fun r1 => if r1 = 0 then (some (-1 : Int32)) else (bnd1 (M_X9_in v2 (0 : Int32) (1 : Int32)) fun r10 => if r10 = 0 then (some (-1 : Int32)) else (chk (ib (((50 : Int32) + ((14 : Int32) * v1)) + v2) 770) (some (gI σ 25 (ix (((50 : Int32) + ((14 : Int32) * v1)) + v2))))))
set_option maxRecDepth 100000 in
set_option maxHeartbeats 4000000 in
theorem c_X9_session (V : Vt) (l : Launch) (σ : Wd) (v1 : Int32) (v2 : Int32) {r : Int32} (h : M_X9_session σ v1 v2 = some r) : Ct l (Zm V) yX9_session cX9_session 3 (some .int) 2 42 [.ref (zA (Zm V) 0), .int v1, .int v2] σ (some (.int r)) σ := by
  refine Ct_intro (own := RX9) zm_ok (by decide +kernel) rfl (Nat.le_of_ble_eq_true rfl) [(0, .ref (zA (Zm V) 0)), (1, .int v1), (2, .int v2)] rfl (fun K C R hKl hnL => ?_)
  have hN := nl_of hnL
  subst hKl
  refine Y_end h ?_
  unfold M_X9_session
  refine x_iload_n C 0 1 dX9_session_0 rfl ?_
  refine Y_bnd1 (fun r1 h1 => ?_)
  refine x_callSi C 1 [.int v1] [] rfl tw_1569 ms_X9_isSession (Nat.le_of_ble_eq_true rfl) (Nat.le_of_ble_eq_true rfl) (Nat.le_of_ble_eq_true rfl) dX9_session_1 (c_X9_isSession V _ _ _ h1) ?_
  refine x_if_eq C 4 33 dX9_session_4 (by decide) (fun _ => ?_) (fun _ => ?_)
  · refine x_iconst C 33 dX9_session_33 ki_m1 ?_
    exact x_iret1 C R 34 dX9_session_34
  · refine x_iload_n C 7 2 dX9_session_7 rfl ?_
    refine x_iconst C 8 dX9_session_8 ki_0 ?_
    refine x_iconst C 9 dX9_session_9 ki_1 ?_
    refine Y_bnd1 (fun r10 h10 => ?_)
    refine x_callSi C 10 [.int v2, .int (0 : Int32), .int (1 : Int32)] [] rfl tw_1572 ms_X9_in (Nat.le_of_ble_eq_true rfl) (Nat.le_of_ble_eq_true rfl) (Nat.le_of_ble_eq_true rfl) dX9_session_10 (c_X9_in V _ _ _ _ _ h10) ?_
    refine x_if_eq C 13 33 dX9_session_13 (by decide) (fun _ => ?_) (fun _ => ?_)
    · refine x_iconst C 33 dX9_session_33 ki_m1 ?_
      exact x_iret1 C R 34 dX9_session_34
    · refine x_aload_n C 16 0 dX9_session_16 rfl ?_
      refine fg_now C 17 dX9_session_17 ?_
      refine x_bipush C 20 dX9_session_20 kb_50 ?_
      refine x_bipush C 22 dX9_session_22 kb_14 ?_
      refine x_iload_n C 24 1 dX9_session_24 rfl ?_
      refine x_imul C 25 dX9_session_25 ?_
      refine x_iadd C 26 dX9_session_26 ?_
      refine x_iload_n C 27 2 dX9_session_27 rfl ?_
      refine x_iadd C 28 dX9_session_28 ?_
      refine x_iald C 29 (Nat.le_of_ble_eq_true rfl) (km_25 V _) dX9_session_29 (fun _ => ?_)
      refine x_goto C 30 34 dX9_session_30 (by decide) ?_
      exact x_iret1 C R 34 dX9_session_34
def M_X9_of_J36 (σ : Wd) (v2 : Int32) (t0 : Int32) (t1 : Int32) : Option Int32 :=
  chk (ib ((t1 + t0) + v2) 770) (some (gI σ 25 (ix ((t1 + t0) + v2))))
def M_X9_of (σ : Wd) (v1 : Int32) (v2 : Int32) (v3 : Int32) : Option Int32 :=
  bnd1 (M_X9_isSession v1) fun r1 => if r1 = 0 then (some (-1 : Int32)) else (bnd1 (M_X9_isCopy σ v2) fun r9 => if r9 = 0 then (some (-1 : Int32)) else (if v3 = 0 then (M_X9_of_J36 σ v2 (3 : Int32) ((50 : Int32) + ((14 : Int32) * v1))) else (M_X9_of_J36 σ v2 (8 : Int32) ((50 : Int32) + ((14 : Int32) * v1)))))
set_option maxRecDepth 100000 in
set_option maxHeartbeats 4000000 in
theorem c_X9_of (V : Vt) (l : Launch) (σ : Wd) (v1 : Int32) (v2 : Int32) (v3 : Int32) {r : Int32} (h : M_X9_of σ v1 v2 v3 = some r) : Ct l (Zm V) yX9_of cX9_of 4 (some .int) 2 43 [.ref (zA (Zm V) 0), .int v1, .int v2, .int v3] σ (some (.int r)) σ := by
  refine Ct_intro (own := RX9) zm_ok (by decide +kernel) rfl (Nat.le_of_ble_eq_true rfl) [(0, .ref (zA (Zm V) 0)), (1, .int v1), (2, .int v2), (3, .int v3)] rfl (fun K C R hKl hnL => ?_)
  have hN := nl_of hnL
  subst hKl
  refine Y_end h ?_
  unfold M_X9_of
  refine x_iload_n C 0 1 dX9_of_0 rfl ?_
  refine Y_bnd1 (fun r1 h1 => ?_)
  refine x_callSi C 1 [.int v1] [] rfl tw_1569 ms_X9_isSession (Nat.le_of_ble_eq_true rfl) (Nat.le_of_ble_eq_true rfl) (Nat.le_of_ble_eq_true rfl) dX9_of_1 (c_X9_isSession V _ _ _ h1) ?_
  refine x_if_eq C 4 43 dX9_of_4 (by decide) (fun _ => ?_) (fun _ => ?_)
  · refine x_iconst C 43 dX9_of_43 ki_m1 ?_
    exact x_iret1 C R 44 dX9_of_44
  · refine x_aload_n C 7 0 dX9_of_7 rfl ?_
    refine x_iload_n C 8 2 dX9_of_8 rfl ?_
    refine Y_bnd1 (fun r9 h9 => ?_)
    refine x_callVi C 9 [.int v2] [] rfl tw_1575 mv_X9_isCopy (Nat.le_of_ble_eq_true rfl) (Nat.le_of_ble_eq_true rfl) (Nat.le_of_ble_eq_true rfl) (Nat.le_of_ble_eq_true rfl) (km_0 V _) rfl dX9_of_9 (c_X9_isCopy V _ _ _ h9) ?_
    refine x_if_eq C 12 43 dX9_of_12 (by decide) (fun _ => ?_) (fun _ => ?_)
    · refine x_iconst C 43 dX9_of_43 ki_m1 ?_
      exact x_iret1 C R 44 dX9_of_44
    · refine x_aload_n C 15 0 dX9_of_15 rfl ?_
      refine fg_now C 16 dX9_of_16 ?_
      refine x_bipush C 19 dX9_of_19 kb_50 ?_
      refine x_bipush C 21 dX9_of_21 kb_14 ?_
      refine x_iload_n C 23 1 dX9_of_23 rfl ?_
      refine x_imul C 24 dX9_of_24 ?_
      refine x_iadd C 25 dX9_of_25 ?_
      refine x_iload_n C 26 3 dX9_of_26 rfl ?_
      have hJ36 : ∀ (v2_36 : Int32) (t0_36 : Int32) (t1_36 : Int32), Y K (Zm V) (M_X9_of_J36 σ v2_36 t0_36 t1_36) (fun q => q = r) σ 36 [(2, .int v2_36)] [.int t0_36, .int t1_36, .ref (zA (Zm V) 25)] := by
        intro v2_36 t0_36 t1_36
        unfold M_X9_of_J36
        refine x_iadd C 36 dX9_of_36 ?_
        refine x_iload_n C 37 0 dX9_of_37 rfl ?_
        refine x_iadd C 38 dX9_of_38 ?_
        refine x_iald C 39 (Nat.le_of_ble_eq_true rfl) (km_25 V _) dX9_of_39 (fun _ => ?_)
        refine x_goto C 40 44 dX9_of_40 (by decide) ?_
        exact x_iret1 C R 44 dX9_of_44
      refine x_if_eq C 27 35 dX9_of_27 (by decide) (fun _ => ?_) (fun _ => ?_)
      · refine x_iconst C 35 dX9_of_35 ki_3 ?_
        refine Y_sub [2] rfl ?_
        exact hJ36 _ _ _
      · refine x_bipush C 30 dX9_of_30 kb_8 ?_
        refine x_goto C 32 36 dX9_of_32 (by decide) ?_
        refine Y_sub [2] rfl ?_
        exact hJ36 _ _ _
def M_X9_shut (σ : Wd) (v1 : Int32) : Option Int32 :=
  bnd1 (M_X9_in v1 (0 : Int32) (7 : Int32)) fun r4 => if r4 ≠ 0 then (chk (ib (4 : Int32) 770) (if (gI σ 25 (ix (4 : Int32))) ≤ v1 then (some (-2 : Int32)) else (chk (ib ((5 : Int32) + v1) 770) (some (gI σ 25 (ix ((5 : Int32) + v1))))))) else (some (-1 : Int32))
set_option maxRecDepth 100000 in
set_option maxHeartbeats 4000000 in
theorem c_X9_shut (V : Vt) (l : Launch) (σ : Wd) (v1 : Int32) {r : Int32} (h : M_X9_shut σ v1 = some r) : Ct l (Zm V) yX9_shut cX9_shut 2 (some .int) 1 22 [.ref (zA (Zm V) 0), .int v1] σ (some (.int r)) σ := by
  refine Ct_intro (own := RX9) zm_ok (by decide +kernel) rfl (Nat.le_of_ble_eq_true rfl) [(0, .ref (zA (Zm V) 0)), (1, .int v1)] rfl (fun K C R hKl hnL => ?_)
  have hN := nl_of hnL
  subst hKl
  refine Y_end h ?_
  unfold M_X9_shut
  refine x_iload_n C 0 1 dX9_shut_0 rfl ?_
  refine x_iconst C 1 dX9_shut_1 ki_0 ?_
  refine x_bipush C 2 dX9_shut_2 kb_7 ?_
  refine Y_bnd1 (fun r4 h4 => ?_)
  refine x_callSi C 4 [.int v1, .int (0 : Int32), .int (7 : Int32)] [] rfl tw_1572 ms_X9_in (Nat.le_of_ble_eq_true rfl) (Nat.le_of_ble_eq_true rfl) (Nat.le_of_ble_eq_true rfl) dX9_shut_4 (c_X9_in V _ _ _ _ _ h4) ?_
  refine x_if_ne C 7 14 dX9_shut_7 (by decide) (fun _ => ?_) (fun _ => ?_)
  · refine x_iload_n C 14 1 dX9_shut_14 rfl ?_
    refine x_aload_n C 15 0 dX9_shut_15 rfl ?_
    refine fg_now C 16 dX9_shut_16 ?_
    refine x_iconst C 19 dX9_shut_19 ki_4 ?_
    refine x_iald C 20 (Nat.le_of_ble_eq_true rfl) (km_25 V _) dX9_shut_20 (fun _ => ?_)
    refine x_icmp_ge C 21 35 dX9_shut_21 (by decide) (fun _ => ?_) (fun _ => ?_)
    · refine x_bipush C 35 dX9_shut_35 kb_m2 ?_
      exact x_iret1 C R 37 dX9_shut_37
    · refine x_aload_n C 24 0 dX9_shut_24 rfl ?_
      refine fg_now C 25 dX9_shut_25 ?_
      refine x_iconst C 28 dX9_shut_28 ki_5 ?_
      refine x_iload_n C 29 1 dX9_shut_29 rfl ?_
      refine x_iadd C 30 dX9_shut_30 ?_
      refine x_iald C 31 (Nat.le_of_ble_eq_true rfl) (km_25 V _) dX9_shut_31 (fun _ => ?_)
      refine x_goto C 32 37 dX9_shut_32 (by decide) ?_
      exact x_iret1 C R 37 dX9_shut_37
  · refine x_iconst C 10 dX9_shut_10 ki_m1 ?_
    refine x_goto C 11 37 dX9_shut_11 (by decide) ?_
    exact x_iret1 C R 37 dX9_shut_37
def M_X9_lacksOf_L5 (σ : Wd) (v1 : Int32) (v2 : Int32) (v3 : Int32) (v4 : Int32) : Option ((Int32 × Int32) ⊕ (Int32)) :=
  chk (ib (0 : Int32) 770) (if (gI σ 26 (ix (0 : Int32))) ≤ v4 then (some (.inr v3)) else (bnd1 (M_X9_doesHave σ v1 v4) fun r20 => if r20 = 0 then (lt (v4 + (1 : Int32)) fun v4_39 => some (.inl (v3, v4_39))) else (bnd1 (M_X9_doesHave σ v2 v4) fun r30 => if r30 ≠ 0 then (lt (v4 + (1 : Int32)) fun v4_39 => some (.inl (v3, v4_39))) else (lt (v3 + (1 : Int32)) fun v3_36 => lt (v4 + (1 : Int32)) fun v4_39 => some (.inl (v3_36, v4_39))))))
def M_X9_lacksOf (σ : Wd) (v1 : Int32) (v2 : Int32) : Option Int32 :=
  bnd1 (iter (fun s : Int32 × Int32 => M_X9_lacksOf_L5 σ v1 v2 s.1 s.2) FU ((0 : Int32), (0 : Int32))) (un1 fun x3_5 => (some x3_5))
set_option maxRecDepth 100000 in
set_option maxHeartbeats 4000000 in
theorem c_X9_lacksOf (V : Vt) (l : Launch) (σ : Wd) (v1 : Int32) (v2 : Int32) {r : Int32} (h : M_X9_lacksOf σ v1 v2 = some r) : Ct l (Zm V) yX9_lacksOf cX9_lacksOf 5 (some .int) 1 22 [.ref (zA (Zm V) 0), .int v1, .int v2] σ (some (.int r)) σ := by
  refine Ct_intro (own := RX9) zm_ok (by decide +kernel) rfl (Nat.le_of_ble_eq_true rfl) [(0, .ref (zA (Zm V) 0)), (1, .int v1), (2, .int v2)] rfl (fun K C R hKl hnL => ?_)
  have hN := nl_of hnL
  subst hKl
  refine Y_end h ?_
  unfold M_X9_lacksOf
  refine x_iconst C 0 dX9_lacksOf_0 ki_0 ?_
  refine x_istore_n C 1 (L' := [(3, .int (0 : Int32)), (0, .ref (zA (Zm V) 0)), (1, .int v1), (2, .int v2)]) dX9_lacksOf_1 rfl (hN _ (Nat.le_of_ble_eq_true rfl)) rfl ?_
  refine x_iconst C 2 dX9_lacksOf_2 ki_0 ?_
  refine x_istore C 3 (L' := [(4, .int (0 : Int32)), (3, .int (0 : Int32)), (0, .ref (zA (Zm V) 0)), (1, .int v1), (2, .int v2)]) dX9_lacksOf_3 (hN _ (Nat.le_of_ble_eq_true rfl)) rfl ?_
  refine Y_sub [2, 3, 4, 1, 0] rfl ?_
  refine x_loop 5 (fun s : Int32 × Int32 => σ) (fun s : Int32 × Int32 => [(0, .ref (zA (Zm V) 0)), (1, .int v1), (2, .int v2), (3, .int s.1), (4, .int s.2)]) (fun E5 hb5 hx5 s => ?_) FU ((0 : Int32), (0 : Int32))
  obtain ⟨v3_5, v4_5⟩ := s
  show Y K (Zm V) (M_X9_lacksOf_L5 σ v1 v2 v3_5 v4_5) E5 σ 5 [(0, .ref (zA (Zm V) 0)), (1, .int v1), (2, .int v2), (3, .int v3_5), (4, .int v4_5)] []
  unfold M_X9_lacksOf_L5
  refine x_iload C 5 4 dX9_lacksOf_5 rfl ?_
  refine x_aload_n C 7 0 dX9_lacksOf_7 rfl ?_
  refine fg_row C 8 dX9_lacksOf_8 ?_
  refine x_iconst C 11 dX9_lacksOf_11 ki_0 ?_
  refine x_iald C 12 (Nat.le_of_ble_eq_true rfl) (km_26 V _) dX9_lacksOf_12 (fun _ => ?_)
  refine x_icmp_ge C 13 45 dX9_lacksOf_13 (by decide) (fun _ => ?_) (fun _ => ?_)
  · refine x_ex1 hx5 v3_5 ?_
    refine x_iload_n C 45 3 dX9_lacksOf_45 rfl ?_
    exact x_iret1 C R 46 dX9_lacksOf_46
  · refine x_aload_n C 16 0 dX9_lacksOf_16 rfl ?_
    refine x_iload_n C 17 1 dX9_lacksOf_17 rfl ?_
    refine x_iload C 18 4 dX9_lacksOf_18 rfl ?_
    refine Y_bnd1 (fun r20 h20 => ?_)
    refine x_callVi C 20 [.int v1, .int v4_5] [] rfl tw_1607 mv_X9_doesHave (Nat.le_of_ble_eq_true rfl) (Nat.le_of_ble_eq_true rfl) (Nat.le_of_ble_eq_true rfl) (Nat.le_of_ble_eq_true rfl) (km_0 V _) rfl dX9_lacksOf_20 (c_X9_doesHave V _ _ _ _ h20) ?_
    refine x_if_eq C 23 39 dX9_lacksOf_23 (by decide) (fun _ => ?_) (fun _ => ?_)
    · refine x_iinct C 39 4 (1 : Int32) (fun v4_39 => [(4, .int v4_39), (0, .ref (zA (Zm V) 0)), (1, .int v1), (2, .int v2), (3, .int v3_5)]) dX9_lacksOf_39 rfl ki_1 (hN _ (Nat.le_of_ble_eq_true rfl)) (fun _ => rfl) (fun v4_39 => ?_)
      refine x_goto C 42 5 dX9_lacksOf_42 (by decide) ?_
      refine Y_sub [1, 2, 3, 4, 0] rfl ?_
      exact x_back (v3_5, v4_39) (hb5 (v3_5, v4_39))
    · refine x_aload_n C 26 0 dX9_lacksOf_26 rfl ?_
      refine x_iload_n C 27 2 dX9_lacksOf_27 rfl ?_
      refine x_iload C 28 4 dX9_lacksOf_28 rfl ?_
      refine Y_bnd1 (fun r30 h30 => ?_)
      refine x_callVi C 30 [.int v2, .int v4_5] [] rfl tw_1607 mv_X9_doesHave (Nat.le_of_ble_eq_true rfl) (Nat.le_of_ble_eq_true rfl) (Nat.le_of_ble_eq_true rfl) (Nat.le_of_ble_eq_true rfl) (km_0 V _) rfl dX9_lacksOf_30 (c_X9_doesHave V _ _ _ _ h30) ?_
      refine x_if_ne C 33 39 dX9_lacksOf_33 (by decide) (fun _ => ?_) (fun _ => ?_)
      · refine x_iinct C 39 4 (1 : Int32) (fun v4_39 => [(4, .int v4_39), (0, .ref (zA (Zm V) 0)), (1, .int v1), (2, .int v2), (3, .int v3_5)]) dX9_lacksOf_39 rfl ki_1 (hN _ (Nat.le_of_ble_eq_true rfl)) (fun _ => rfl) (fun v4_39 => ?_)
        refine x_goto C 42 5 dX9_lacksOf_42 (by decide) ?_
        refine Y_sub [1, 2, 3, 4, 0] rfl ?_
        exact x_back (v3_5, v4_39) (hb5 (v3_5, v4_39))
      · refine x_iinct C 36 3 (1 : Int32) (fun v3_36 => [(3, .int v3_36), (0, .ref (zA (Zm V) 0)), (1, .int v1), (2, .int v2), (4, .int v4_5)]) dX9_lacksOf_36 rfl ki_1 (hN _ (Nat.le_of_ble_eq_true rfl)) (fun _ => rfl) (fun v3_36 => ?_)
        refine x_iinct C 39 4 (1 : Int32) (fun v4_39 => [(4, .int v4_39), (3, .int v3_36), (0, .ref (zA (Zm V) 0)), (1, .int v1), (2, .int v2)]) dX9_lacksOf_39 rfl ki_1 (hN _ (Nat.le_of_ble_eq_true rfl)) (fun _ => rfl) (fun v4_39 => ?_)
        refine x_goto C 42 5 dX9_lacksOf_42 (by decide) ?_
        refine Y_sub [2, 3, 4, 1, 0] rfl ?_
        exact x_back (v3_36, v4_39) (hb5 (v3_36, v4_39))
def M_X9_areAlike (σ : Wd) (v1 : Int32) (v2 : Int32) : Option Int32 :=
  bnd1 (M_X9_lacksOf σ v1 v2) fun r3 => if r3 ≠ 0 then (some (0 : Int32)) else (bnd1 (M_X9_lacksOf σ v2 v1) fun r12 => if r12 ≠ 0 then (some (0 : Int32)) else (bnd1 (M_X9_ofCopy σ v1 (0 : Int32)) fun r21 => bnd1 (M_X9_ofCopy σ v2 (0 : Int32)) fun r27 => if r21 ≠ r27 then (some (0 : Int32)) else (some (1 : Int32))))
set_option maxRecDepth 100000 in
set_option maxHeartbeats 4000000 in
theorem c_X9_areAlike (V : Vt) (l : Launch) (σ : Wd) (v1 : Int32) (v2 : Int32) {r : Int32} (h : M_X9_areAlike σ v1 v2 = some r) : Ct l (Zm V) yX9_areAlike cX9_areAlike 3 (some .boolean) 2 46 [.ref (zA (Zm V) 0), .int v1, .int v2] σ (some (.int r)) σ := by
  refine Ct_intro (own := RX9) zm_ok (by decide +kernel) rfl (Nat.le_of_ble_eq_true rfl) [(0, .ref (zA (Zm V) 0)), (1, .int v1), (2, .int v2)] rfl (fun K C R hKl hnL => ?_)
  have hN := nl_of hnL
  subst hKl
  refine Y_end h ?_
  unfold M_X9_areAlike
  refine x_aload_n C 0 0 dX9_areAlike_0 rfl ?_
  refine x_iload_n C 1 1 dX9_areAlike_1 rfl ?_
  refine x_iload_n C 2 2 dX9_areAlike_2 rfl ?_
  refine Y_bnd1 (fun r3 h3 => ?_)
  refine x_callVi C 3 [.int v1, .int v2] [] rfl tw_1810 mv_X9_lacksOf (Nat.le_of_ble_eq_true rfl) (Nat.le_of_ble_eq_true rfl) (Nat.le_of_ble_eq_true rfl) (Nat.le_of_ble_eq_true rfl) (km_0 V _) rfl dX9_areAlike_3 (c_X9_lacksOf V _ _ _ _ h3) ?_
  refine x_if_ne C 6 37 dX9_areAlike_6 (by decide) (fun _ => ?_) (fun _ => ?_)
  · refine x_iconst C 37 dX9_areAlike_37 ki_0 ?_
    exact x_zret1 C R 38 (zb_nar (r := (0 : Int32)) (Or.inl rfl)) dX9_areAlike_38
  · refine x_aload_n C 9 0 dX9_areAlike_9 rfl ?_
    refine x_iload_n C 10 2 dX9_areAlike_10 rfl ?_
    refine x_iload_n C 11 1 dX9_areAlike_11 rfl ?_
    refine Y_bnd1 (fun r12 h12 => ?_)
    refine x_callVi C 12 [.int v2, .int v1] [] rfl tw_1810 mv_X9_lacksOf (Nat.le_of_ble_eq_true rfl) (Nat.le_of_ble_eq_true rfl) (Nat.le_of_ble_eq_true rfl) (Nat.le_of_ble_eq_true rfl) (km_0 V _) rfl dX9_areAlike_12 (c_X9_lacksOf V _ _ _ _ h12) ?_
    refine x_if_ne C 15 37 dX9_areAlike_15 (by decide) (fun _ => ?_) (fun _ => ?_)
    · refine x_iconst C 37 dX9_areAlike_37 ki_0 ?_
      exact x_zret1 C R 38 (zb_nar (r := (0 : Int32)) (Or.inl rfl)) dX9_areAlike_38
    · refine x_aload_n C 18 0 dX9_areAlike_18 rfl ?_
      refine x_iload_n C 19 1 dX9_areAlike_19 rfl ?_
      refine x_iconst C 20 dX9_areAlike_20 ki_0 ?_
      refine Y_bnd1 (fun r21 h21 => ?_)
      refine x_callVi C 21 [.int v1, .int (0 : Int32)] [] rfl tw_1635 mv_X9_ofCopy (Nat.le_of_ble_eq_true rfl) (Nat.le_of_ble_eq_true rfl) (Nat.le_of_ble_eq_true rfl) (Nat.le_of_ble_eq_true rfl) (km_0 V _) rfl dX9_areAlike_21 (c_X9_ofCopy V _ _ _ _ h21) ?_
      refine x_aload_n C 24 0 dX9_areAlike_24 rfl ?_
      refine x_iload_n C 25 2 dX9_areAlike_25 rfl ?_
      refine x_iconst C 26 dX9_areAlike_26 ki_0 ?_
      refine Y_bnd1 (fun r27 h27 => ?_)
      refine x_callVi C 27 [.int v2, .int (0 : Int32)] [.int r21] rfl tw_1635 mv_X9_ofCopy (Nat.le_of_ble_eq_true rfl) (Nat.le_of_ble_eq_true rfl) (Nat.le_of_ble_eq_true rfl) (Nat.le_of_ble_eq_true rfl) (km_0 V _) rfl dX9_areAlike_27 (c_X9_ofCopy V _ _ _ _ h27) ?_
      refine x_icmp_ne C 30 37 dX9_areAlike_30 (by decide) (fun _ => ?_) (fun _ => ?_)
      · refine x_iconst C 37 dX9_areAlike_37 ki_0 ?_
        exact x_zret1 C R 38 (zb_nar (r := (0 : Int32)) (Or.inl rfl)) dX9_areAlike_38
      · refine x_iconst C 33 dX9_areAlike_33 ki_1 ?_
        refine x_goto C 34 38 dX9_areAlike_34 (by decide) ?_
        exact x_zret1 C R 38 (zb_nar (r := (1 : Int32)) (Or.inr rfl)) dX9_areAlike_38
def M_X9_areAllAlike_L2 (σ : Wd) (v1 : Int32) : Option ((Int32) ⊕ ((Unit) ⊕ Int32)) :=
  chk (ib (gI σ 0 18) 2) (if (gI σ 10 (ix (gI σ 0 18))) ≤ v1 then (some (.inr (.inl ()))) else (bnd1 (M_X9_areAlike σ (0 : Int32) v1) fun r18 => if r18 ≠ 0 then (lt (v1 + (1 : Int32)) fun v1_26 => some (.inl v1_26)) else (some (.inr (.inr (0 : Int32))))))
def M_X9_areAllAlike (σ : Wd) : Option Int32 :=
  bnd1 (iter (fun s : Int32 => M_X9_areAllAlike_L2 σ s) FU (1 : Int32)) (sx (un0 (some (1 : Int32))) (fun q => some q))
set_option maxRecDepth 100000 in
set_option maxHeartbeats 4000000 in
theorem c_X9_areAllAlike (V : Vt) (l : Launch) (σ : Wd) {r : Int32} (h : M_X9_areAllAlike σ = some r) : Ct l (Zm V) yX9_areAllAlike cX9_areAllAlike 2 (some .boolean) 3 68 [.ref (zA (Zm V) 0)] σ (some (.int r)) σ := by
  refine Ct_intro (own := RX9) zm_ok (by decide +kernel) rfl (Nat.le_of_ble_eq_true rfl) [(0, .ref (zA (Zm V) 0))] rfl (fun K C R hKl hnL => ?_)
  have hN := nl_of hnL
  subst hKl
  refine Y_end h ?_
  unfold M_X9_areAllAlike
  refine x_iconst C 0 dX9_areAllAlike_0 ki_1 ?_
  refine x_istore_n C 1 (L' := [(1, .int (1 : Int32)), (0, .ref (zA (Zm V) 0))]) dX9_areAllAlike_1 rfl (hN _ (Nat.le_of_ble_eq_true rfl)) rfl ?_
  refine Y_sub [1, 0] rfl ?_
  refine x_loop 2 (fun s : Int32 => σ) (fun s : Int32 => [(0, .ref (zA (Zm V) 0)), (1, .int s)]) (fun E2 hb2 hx2 s => ?_) FU (1 : Int32)
  obtain ⟨v1_2, rfl⟩ : ∃ z, z = s := ⟨s, rfl⟩
  show Y K (Zm V) (M_X9_areAllAlike_L2 σ v1_2) E2 σ 2 [(0, .ref (zA (Zm V) 0)), (1, .int v1_2)] []
  unfold M_X9_areAllAlike_L2
  refine x_iload_n C 2 1 dX9_areAllAlike_2 rfl ?_
  refine x_aload_n C 3 0 dX9_areAllAlike_3 rfl ?_
  refine fg_copies C 4 dX9_areAllAlike_4 ?_
  refine x_aload_n C 7 0 dX9_areAllAlike_7 rfl ?_
  refine fg_live C 8 dX9_areAllAlike_8 ?_
  refine x_iald C 11 (Nat.le_of_ble_eq_true rfl) (km_10 V _) dX9_areAllAlike_11 (fun _ => ?_)
  refine x_icmp_ge C 12 32 dX9_areAllAlike_12 (by decide) (fun _ => ?_) (fun _ => ?_)
  · refine x_exl0 hx2 ?_
    refine x_iconst C 32 dX9_areAllAlike_32 ki_1 ?_
    exact x_zret1 C R 33 (zb_nar (r := (1 : Int32)) (Or.inr rfl)) dX9_areAllAlike_33
  · refine x_aload_n C 15 0 dX9_areAllAlike_15 rfl ?_
    refine x_iconst C 16 dX9_areAllAlike_16 ki_0 ?_
    refine x_iload_n C 17 1 dX9_areAllAlike_17 rfl ?_
    refine Y_bnd1 (fun r18 h18 => ?_)
    refine x_callVi C 18 [.int (0 : Int32), .int v1_2] [] rfl tw_1826 mv_X9_areAlike (Nat.le_of_ble_eq_true rfl) (Nat.le_of_ble_eq_true rfl) (Nat.le_of_ble_eq_true rfl) (Nat.le_of_ble_eq_true rfl) (km_0 V _) rfl dX9_areAllAlike_18 (c_X9_areAlike V _ _ _ _ h18) ?_
    refine x_if_ne C 21 26 dX9_areAllAlike_21 (by decide) (fun _ => ?_) (fun _ => ?_)
    · refine x_iinct C 26 1 (1 : Int32) (fun v1_26 => [(1, .int v1_26), (0, .ref (zA (Zm V) 0))]) dX9_areAllAlike_26 rfl ki_1 (hN _ (Nat.le_of_ble_eq_true rfl)) (fun _ => rfl) (fun v1_26 => ?_)
      refine x_goto C 29 2 dX9_areAllAlike_29 (by decide) ?_
      refine Y_sub [1, 0] rfl ?_
      exact x_back v1_26 (hb2 v1_26)
    · refine x_iconst C 24 dX9_areAllAlike_24 ki_0 ?_
      refine x_exr hx2 _ ?_
      exact x_zret1 C R 25 (zb_nar (r := (0 : Int32)) (Or.inl rfl)) dX9_areAllAlike_25
def M_X9_lacks (σ : Wd) (v1 : Int32) (v2 : Int32) : Option (Int32 × Wd) :=
  bnd1 (M_X9_copiesNow σ) fun s_1 => bnd1 (M_X9_isCopy s_1 v1) fun r6 => if r6 = 0 then (some ((-1 : Int32), s_1)) else (bnd1 (M_X9_isCopy s_1 v2) fun r14 => if r14 = 0 then (some ((-1 : Int32), s_1)) else (bnd1 (M_X9_lacksOf s_1 v1 v2) fun r23 => some (r23, s_1)))
set_option maxRecDepth 100000 in
set_option maxHeartbeats 4000000 in
theorem c_X9_lacks (V : Vt) (l : Launch) (σ : Wd) (v1 : Int32) (v2 : Int32) {r : Int32} {σ2 : Wd} (h : M_X9_lacks σ v1 v2 = some (r, σ2)) : Ct l (Zm V) yX9_lacks cX9_lacks 3 (some .int) 2 46 [.ref (zA (Zm V) 0), .int v1, .int v2] σ (some (.int r)) σ2 := by
  refine Ct_intro (own := RX9) zm_ok (by decide +kernel) rfl (Nat.le_of_ble_eq_true rfl) [(0, .ref (zA (Zm V) 0)), (1, .int v1), (2, .int v2)] rfl (fun K C R hKl hnL => ?_)
  have hN := nl_of hnL
  subst hKl
  refine Y_end h ?_
  unfold M_X9_lacks
  refine x_aload_n C 0 0 dX9_lacks_0 rfl ?_
  refine Y_bnd1 (fun s_1 h1 => ?_)
  refine x_callVv C 1 [] [] rfl tw_1579 mv_X9_copiesNow (Nat.le_of_ble_eq_true rfl) (Nat.le_of_ble_eq_true rfl) (Nat.le_of_ble_eq_true rfl) (Nat.le_of_ble_eq_true rfl) (km_0 V _) rfl dX9_lacks_1 (c_X9_copiesNow V _ _  h1) ?_
  refine x_aload_n C 4 0 dX9_lacks_4 rfl ?_
  refine x_iload_n C 5 1 dX9_lacks_5 rfl ?_
  refine Y_bnd1 (fun r6 h6 => ?_)
  refine x_callVi C 6 [.int v1] [] rfl tw_1575 mv_X9_isCopy (Nat.le_of_ble_eq_true rfl) (Nat.le_of_ble_eq_true rfl) (Nat.le_of_ble_eq_true rfl) (Nat.le_of_ble_eq_true rfl) (km_0 V _) rfl dX9_lacks_6 (c_X9_isCopy V _ _ _ h6) ?_
  refine x_if_eq C 9 29 dX9_lacks_9 (by decide) (fun _ => ?_) (fun _ => ?_)
  · refine x_iconst C 29 dX9_lacks_29 ki_m1 ?_
    exact x_iret2 C R 30 dX9_lacks_30
  · refine x_aload_n C 12 0 dX9_lacks_12 rfl ?_
    refine x_iload_n C 13 2 dX9_lacks_13 rfl ?_
    refine Y_bnd1 (fun r14 h14 => ?_)
    refine x_callVi C 14 [.int v2] [] rfl tw_1575 mv_X9_isCopy (Nat.le_of_ble_eq_true rfl) (Nat.le_of_ble_eq_true rfl) (Nat.le_of_ble_eq_true rfl) (Nat.le_of_ble_eq_true rfl) (km_0 V _) rfl dX9_lacks_14 (c_X9_isCopy V _ _ _ h14) ?_
    refine x_if_eq C 17 29 dX9_lacks_17 (by decide) (fun _ => ?_) (fun _ => ?_)
    · refine x_iconst C 29 dX9_lacks_29 ki_m1 ?_
      exact x_iret2 C R 30 dX9_lacks_30
    · refine x_aload_n C 20 0 dX9_lacks_20 rfl ?_
      refine x_iload_n C 21 1 dX9_lacks_21 rfl ?_
      refine x_iload_n C 22 2 dX9_lacks_22 rfl ?_
      refine Y_bnd1 (fun r23 h23 => ?_)
      refine x_callVi C 23 [.int v1, .int v2] [] rfl tw_1810 mv_X9_lacksOf (Nat.le_of_ble_eq_true rfl) (Nat.le_of_ble_eq_true rfl) (Nat.le_of_ble_eq_true rfl) (Nat.le_of_ble_eq_true rfl) (km_0 V _) rfl dX9_lacks_23 (c_X9_lacksOf V _ _ _ _ h23) ?_
      refine x_goto C 26 30 dX9_lacks_26 (by decide) ?_
      exact x_iret2 C R 30 dX9_lacks_30
def M_X9_would (σ : Wd) (v1 : Int32) (v2 : Int32) : Option (Int32 × Wd) :=
  bnd1 (M_X9_areTwo σ v1 v2) fun r3 => if r3 ≠ 0 then (bnd1 (M_X9_copiesNow σ) fun s_12 => bnd2 (M_X9_meets s_12 v1 v2) fun r18 s_18 => some (r18, s_18)) else (some ((-1 : Int32), σ))
set_option maxRecDepth 100000 in
set_option maxHeartbeats 4000000 in
theorem c_X9_would (V : Vt) (l : Launch) (σ : Wd) (v1 : Int32) (v2 : Int32) {r : Int32} {σ2 : Wd} (h : M_X9_would σ v1 v2 = some (r, σ2)) : Ct l (Zm V) yX9_would cX9_would 3 (some .int) 5 116 [.ref (zA (Zm V) 0), .int v1, .int v2] σ (some (.int r)) σ2 := by
  refine Ct_intro (own := RX9) zm_ok (by decide +kernel) rfl (Nat.le_of_ble_eq_true rfl) [(0, .ref (zA (Zm V) 0)), (1, .int v1), (2, .int v2)] rfl (fun K C R hKl hnL => ?_)
  have hN := nl_of hnL
  subst hKl
  refine Y_end h ?_
  unfold M_X9_would
  refine x_aload_n C 0 0 dX9_would_0 rfl ?_
  refine x_iload_n C 1 1 dX9_would_1 rfl ?_
  refine x_iload_n C 2 2 dX9_would_2 rfl ?_
  refine Y_bnd1 (fun r3 h3 => ?_)
  refine x_callVi C 3 [.int v1, .int v2] [] rfl tw_1707 mv_X9_areTwo (Nat.le_of_ble_eq_true rfl) (Nat.le_of_ble_eq_true rfl) (Nat.le_of_ble_eq_true rfl) (Nat.le_of_ble_eq_true rfl) (km_0 V _) rfl dX9_would_3 (c_X9_areTwo V _ _ _ _ h3) ?_
  refine x_if_ne C 6 11 dX9_would_6 (by decide) (fun _ => ?_) (fun _ => ?_)
  · refine x_aload_n C 11 0 dX9_would_11 rfl ?_
    refine Y_bnd1 (fun s_12 h12 => ?_)
    refine x_callVv C 12 [] [] rfl tw_1579 mv_X9_copiesNow (Nat.le_of_ble_eq_true rfl) (Nat.le_of_ble_eq_true rfl) (Nat.le_of_ble_eq_true rfl) (Nat.le_of_ble_eq_true rfl) (km_0 V _) rfl dX9_would_12 (c_X9_copiesNow V _ _  h12) ?_
    refine x_aload_n C 15 0 dX9_would_15 rfl ?_
    refine x_iload_n C 16 1 dX9_would_16 rfl ?_
    refine x_iload_n C 17 2 dX9_would_17 rfl ?_
    refine Y_bnd2 (fun r18 s_18 h18 => ?_)
    refine x_callVi C 18 [.int v1, .int v2] [] rfl tw_1711 mv_X9_meets (Nat.le_of_ble_eq_true rfl) (Nat.le_of_ble_eq_true rfl) (Nat.le_of_ble_eq_true rfl) (Nat.le_of_ble_eq_true rfl) (km_0 V _) rfl dX9_would_18 (c_X9_meets V _ _ _ _ h18) ?_
    exact x_iret2 C R 21 dX9_would_21
  · refine x_iconst C 9 dX9_would_9 ki_m1 ?_
    exact x_iret2 C R 10 dX9_would_10
def M_X9_differ_L29 (v2 : Int32) (v3 : Int32) (σ : Wd) : Option ((Int32 × Wd) ⊕ (Wd)) :=
  if (6 : Int32) ≤ v3 then (some (.inr σ)) else (chk (ib v3 6) (chk (ib v3 6) (lt (uI σ 33 (ix v3) (gI σ 29 (ix v3))) fun s_46 => lt (v3 + (1 : Int32)) fun v3_47 => some (.inl (v3_47, s_46)))))
def M_X9_differ_L63 (σ : Wd) (v3 : Int32) (v4 : Int32) : Option ((Int32 × Int32) ⊕ (Int32)) :=
  chk (ib (gI σ 0 18) 2) (if (gI σ 12 (ix (gI σ 0 18))) ≤ v4 then (some (.inr v3)) else (chk (ib v4 6) (chk (ib v4 6) (if (gI σ 33 (ix v4)) = (gI σ 29 (ix v4)) then (lt (v4 + (1 : Int32)) fun v4_101 => some (.inl (v3, v4_101))) else (lt (v3 ||| ((1 : Int32) <<< (v4 &&& 31))) fun v3_100 => lt (v4 + (1 : Int32)) fun v4_101 => some (.inl (v3_100, v4_101)))))))
def M_X9_differ (σ : Wd) (v1 : Int32) (v2 : Int32) : Option (Int32 × Wd) :=
  bnd1 (M_X9_isCopy σ v1) fun r2 => if r2 = 0 then (some ((-1 : Int32), σ)) else (bnd1 (M_X9_isCopy σ v2) fun r10 => if r10 ≠ 0 then (bnd1 (M_X9_copiesNow σ) fun s_19 => bnd1 (M_X9_doesAll s_19 v1) fun s_24 => bnd1 (iter (fun s : Int32 × Wd => M_X9_differ_L29 v2 s.1 s.2) FU ((0 : Int32), s_24)) (un1 fun sx_29 => (bnd1 (M_X9_doesAll sx_29 v2) fun s_55 => bnd1 (iter (fun s : Int32 × Int32 => M_X9_differ_L63 s_55 s.1 s.2) FU ((0 : Int32), (0 : Int32))) (un1 fun x3_63 => (some (x3_63, s_55)))))) else (some ((-1 : Int32), σ)))
set_option maxRecDepth 100000 in
set_option maxHeartbeats 4000000 in
theorem c_X9_differ (V : Vt) (l : Launch) (σ : Wd) (v1 : Int32) (v2 : Int32) {r : Int32} {σ2 : Wd} (h : M_X9_differ σ v1 v2 = some (r, σ2)) : Ct l (Zm V) yX9_differ cX9_differ 5 (some .int) 5 121 [.ref (zA (Zm V) 0), .int v1, .int v2] σ (some (.int r)) σ2 := by
  refine Ct_intro (own := RX9) zm_ok (by decide +kernel) rfl (Nat.le_of_ble_eq_true rfl) [(0, .ref (zA (Zm V) 0)), (1, .int v1), (2, .int v2)] rfl (fun K C R hKl hnL => ?_)
  have hN := nl_of hnL
  subst hKl
  refine Y_end h ?_
  unfold M_X9_differ
  refine x_aload_n C 0 0 dX9_differ_0 rfl ?_
  refine x_iload_n C 1 1 dX9_differ_1 rfl ?_
  refine Y_bnd1 (fun r2 h2 => ?_)
  refine x_callVi C 2 [.int v1] [] rfl tw_1575 mv_X9_isCopy (Nat.le_of_ble_eq_true rfl) (Nat.le_of_ble_eq_true rfl) (Nat.le_of_ble_eq_true rfl) (Nat.le_of_ble_eq_true rfl) (km_0 V _) rfl dX9_differ_2 (c_X9_isCopy V _ _ _ h2) ?_
  refine x_if_eq C 5 16 dX9_differ_5 (by decide) (fun _ => ?_) (fun _ => ?_)
  · refine x_iconst C 16 dX9_differ_16 ki_m1 ?_
    exact x_iret2 C R 17 dX9_differ_17
  · refine x_aload_n C 8 0 dX9_differ_8 rfl ?_
    refine x_iload_n C 9 2 dX9_differ_9 rfl ?_
    refine Y_bnd1 (fun r10 h10 => ?_)
    refine x_callVi C 10 [.int v2] [] rfl tw_1575 mv_X9_isCopy (Nat.le_of_ble_eq_true rfl) (Nat.le_of_ble_eq_true rfl) (Nat.le_of_ble_eq_true rfl) (Nat.le_of_ble_eq_true rfl) (km_0 V _) rfl dX9_differ_10 (c_X9_isCopy V _ _ _ h10) ?_
    refine x_if_ne C 13 18 dX9_differ_13 (by decide) (fun _ => ?_) (fun _ => ?_)
    · refine x_aload_n C 18 0 dX9_differ_18 rfl ?_
      refine Y_bnd1 (fun s_19 h19 => ?_)
      refine x_callVv C 19 [] [] rfl tw_1579 mv_X9_copiesNow (Nat.le_of_ble_eq_true rfl) (Nat.le_of_ble_eq_true rfl) (Nat.le_of_ble_eq_true rfl) (Nat.le_of_ble_eq_true rfl) (km_0 V _) rfl dX9_differ_19 (c_X9_copiesNow V _ _  h19) ?_
      refine x_aload_n C 22 0 dX9_differ_22 rfl ?_
      refine x_iload_n C 23 1 dX9_differ_23 rfl ?_
      refine Y_bnd1 (fun s_24 h24 => ?_)
      refine x_callVv C 24 [.int v1] [] rfl tw_1671 mv_X9_doesAll (Nat.le_of_ble_eq_true rfl) (Nat.le_of_ble_eq_true rfl) (Nat.le_of_ble_eq_true rfl) (Nat.le_of_ble_eq_true rfl) (km_0 V _) rfl dX9_differ_24 (c_X9_doesAll V _ _ _ h24) ?_
      refine x_iconst C 27 dX9_differ_27 ki_0 ?_
      refine x_istore_n C 28 (L' := [(3, .int (0 : Int32)), (0, .ref (zA (Zm V) 0)), (1, .int v1), (2, .int v2)]) dX9_differ_28 rfl (hN _ (Nat.le_of_ble_eq_true rfl)) rfl ?_
      refine Y_sub [1, 3, 0] rfl ?_
      refine x_loop 29 (fun s : Int32 × Wd => s.2) (fun s : Int32 × Wd => [(0, .ref (zA (Zm V) 0)), (2, .int v2), (3, .int s.1)]) (fun E29 hb29 hx29 s => ?_) FU ((0 : Int32), s_24)
      obtain ⟨v3_29, s_29⟩ := s
      show Y K (Zm V) (M_X9_differ_L29 v2 v3_29 s_29) E29 s_29 29 [(0, .ref (zA (Zm V) 0)), (2, .int v2), (3, .int v3_29)] []
      unfold M_X9_differ_L29
      refine x_iload_n C 29 2 dX9_differ_29 rfl ?_
      refine x_bipush C 30 dX9_differ_30 kb_6 ?_
      refine x_icmp_ge C 32 53 dX9_differ_32 (by decide) (fun _ => ?_) (fun _ => ?_)
      · refine x_ex1 hx29 s_29 ?_
        refine x_aload_n C 53 0 dX9_differ_53 rfl ?_
        refine x_iload_n C 54 1 dX9_differ_54 rfl ?_
        refine Y_bnd1 (fun s_55 h55 => ?_)
        refine x_callVv C 55 [.int v2] [] rfl tw_1671 mv_X9_doesAll (Nat.le_of_ble_eq_true rfl) (Nat.le_of_ble_eq_true rfl) (Nat.le_of_ble_eq_true rfl) (Nat.le_of_ble_eq_true rfl) (km_0 V _) rfl dX9_differ_55 (c_X9_doesAll V _ _ _ h55) ?_
        refine x_iconst C 58 dX9_differ_58 ki_0 ?_
        refine x_istore_n C 59 (L' := [(3, .int (0 : Int32)), (0, .ref (zA (Zm V) 0)), (2, .int v2)]) dX9_differ_59 rfl (hN _ (Nat.le_of_ble_eq_true rfl)) rfl ?_
        refine x_iconst C 60 dX9_differ_60 ki_0 ?_
        refine x_istore C 61 (L' := [(4, .int (0 : Int32)), (3, .int (0 : Int32)), (0, .ref (zA (Zm V) 0)), (2, .int v2)]) dX9_differ_61 (hN _ (Nat.le_of_ble_eq_true rfl)) rfl ?_
        refine Y_sub [2, 1, 0] rfl ?_
        refine x_loop 63 (fun s : Int32 × Int32 => s_55) (fun s : Int32 × Int32 => [(0, .ref (zA (Zm V) 0)), (3, .int s.1), (4, .int s.2)]) (fun E63 hb63 hx63 s => ?_) FU ((0 : Int32), (0 : Int32))
        obtain ⟨v3_63, v4_63⟩ := s
        show Y K (Zm V) (M_X9_differ_L63 s_55 v3_63 v4_63) E63 s_55 63 [(0, .ref (zA (Zm V) 0)), (3, .int v3_63), (4, .int v4_63)] []
        unfold M_X9_differ_L63
        refine x_iload C 63 2 dX9_differ_63 rfl ?_
        refine x_aload_n C 65 0 dX9_differ_65 rfl ?_
        refine fg_cells C 66 dX9_differ_66 ?_
        refine x_aload_n C 69 0 dX9_differ_69 rfl ?_
        refine fg_live C 70 dX9_differ_70 ?_
        refine x_iald C 73 (Nat.le_of_ble_eq_true rfl) (km_12 V _) dX9_differ_73 (fun _ => ?_)
        refine x_icmp_ge C 74 107 dX9_differ_74 (by decide) (fun _ => ?_) (fun _ => ?_)
        · refine x_ex1 hx63 v3_63 ?_
          refine x_iload_n C 107 1 dX9_differ_107 rfl ?_
          exact x_iret2 C R 108 dX9_differ_108
        · refine x_aload_n C 77 0 dX9_differ_77 rfl ?_
          refine fg_cellThere C 78 dX9_differ_78 ?_
          refine x_iload C 81 2 dX9_differ_81 rfl ?_
          refine x_iald C 83 (Nat.le_of_ble_eq_true rfl) (km_33 V _) dX9_differ_83 (fun _ => ?_)
          refine x_aload_n C 84 0 dX9_differ_84 rfl ?_
          refine fg_cellNow C 85 dX9_differ_85 ?_
          refine x_iload C 88 2 dX9_differ_88 rfl ?_
          refine x_iald C 90 (Nat.le_of_ble_eq_true rfl) (km_29 V _) dX9_differ_90 (fun _ => ?_)
          refine x_icmp_eq C 91 101 dX9_differ_91 (by decide) (fun _ => ?_) (fun _ => ?_)
          · refine x_iinct C 101 2 (1 : Int32) (fun v4_101 => [(4, .int v4_101), (0, .ref (zA (Zm V) 0)), (3, .int v3_63)]) dX9_differ_101 rfl ki_1 (hN _ (Nat.le_of_ble_eq_true rfl)) (fun _ => rfl) (fun v4_101 => ?_)
            refine x_goto C 104 63 dX9_differ_104 (by decide) ?_
            refine Y_sub [1, 2, 0] rfl ?_
            exact x_back (v3_63, v4_101) (hb63 (v3_63, v4_101))
          · refine x_iload_n C 94 1 dX9_differ_94 rfl ?_
            refine x_iconst C 95 dX9_differ_95 ki_1 ?_
            refine x_iload C 96 2 dX9_differ_96 rfl ?_
            refine x_ishl C 98 dX9_differ_98 ?_
            refine x_ior C 99 dX9_differ_99 ?_
            refine x_istore_nt C 100 (fun v3_100 => [(3, .int v3_100), (0, .ref (zA (Zm V) 0)), (4, .int v4_63)]) dX9_differ_100 rfl (hN _ (Nat.le_of_ble_eq_true rfl)) (fun _ => rfl) (fun v3_100 => ?_)
            refine x_iinct C 101 2 (1 : Int32) (fun v4_101 => [(4, .int v4_101), (3, .int v3_100), (0, .ref (zA (Zm V) 0))]) dX9_differ_101 rfl ki_1 (hN _ (Nat.le_of_ble_eq_true rfl)) (fun _ => rfl) (fun v4_101 => ?_)
            refine x_goto C 104 63 dX9_differ_104 (by decide) ?_
            refine Y_sub [2, 1, 0] rfl ?_
            exact x_back (v3_100, v4_101) (hb63 (v3_100, v4_101))
      · refine x_aload_n C 35 0 dX9_differ_35 rfl ?_
        refine fg_cellThere C 36 dX9_differ_36 ?_
        refine x_iload_n C 39 2 dX9_differ_39 rfl ?_
        refine x_aload_n C 40 0 dX9_differ_40 rfl ?_
        refine fg_cellNow C 41 dX9_differ_41 ?_
        refine x_iload_n C 44 2 dX9_differ_44 rfl ?_
        refine x_iald C 45 (Nat.le_of_ble_eq_true rfl) (km_29 V _) dX9_differ_45 (fun _ => ?_)
        refine x_iast C 46 (Nat.le_of_ble_eq_true rfl) (km_33 V) dX9_differ_46 (fun _ s_46 => ?_)
        refine x_iinct C 47 2 (1 : Int32) (fun v3_47 => [(3, .int v3_47), (0, .ref (zA (Zm V) 0)), (2, .int v2)]) dX9_differ_47 rfl ki_1 (hN _ (Nat.le_of_ble_eq_true rfl)) (fun _ => rfl) (fun v3_47 => ?_)
        refine x_goto C 50 29 dX9_differ_50 (by decide) ?_
        refine Y_sub [1, 2, 0] rfl ?_
        exact x_back (v3_47, s_46) (hb29 (v3_47, s_46))
    · refine x_iconst C 16 dX9_differ_16 ki_m1 ?_
      exact x_iret2 C R 17 dX9_differ_17
def M_X9_alike (σ : Wd) (v1 : Int32) (v2 : Int32) : Option (Int32 × Wd) :=
  bnd1 (M_X9_copiesNow σ) fun s_1 => bnd1 (M_X9_isCopy s_1 v1) fun r6 => if r6 = 0 then (some ((-1 : Int32), s_1)) else (bnd1 (M_X9_isCopy s_1 v2) fun r14 => if r14 ≠ 0 then (bnd1 (M_X9_areAlike s_1 v1 v2) fun r27 => if r27 = 0 then (some ((0 : Int32), s_1)) else (some ((1 : Int32), s_1))) else (some ((-1 : Int32), s_1)))
set_option maxRecDepth 100000 in
set_option maxHeartbeats 4000000 in
theorem c_X9_alike (V : Vt) (l : Launch) (σ : Wd) (v1 : Int32) (v2 : Int32) {r : Int32} {σ2 : Wd} (h : M_X9_alike σ v1 v2 = some (r, σ2)) : Ct l (Zm V) yX9_alike cX9_alike 3 (some .int) 3 68 [.ref (zA (Zm V) 0), .int v1, .int v2] σ (some (.int r)) σ2 := by
  refine Ct_intro (own := RX9) zm_ok (by decide +kernel) rfl (Nat.le_of_ble_eq_true rfl) [(0, .ref (zA (Zm V) 0)), (1, .int v1), (2, .int v2)] rfl (fun K C R hKl hnL => ?_)
  have hN := nl_of hnL
  subst hKl
  refine Y_end h ?_
  unfold M_X9_alike
  refine x_aload_n C 0 0 dX9_alike_0 rfl ?_
  refine Y_bnd1 (fun s_1 h1 => ?_)
  refine x_callVv C 1 [] [] rfl tw_1579 mv_X9_copiesNow (Nat.le_of_ble_eq_true rfl) (Nat.le_of_ble_eq_true rfl) (Nat.le_of_ble_eq_true rfl) (Nat.le_of_ble_eq_true rfl) (km_0 V _) rfl dX9_alike_1 (c_X9_copiesNow V _ _  h1) ?_
  refine x_aload_n C 4 0 dX9_alike_4 rfl ?_
  refine x_iload_n C 5 1 dX9_alike_5 rfl ?_
  refine Y_bnd1 (fun r6 h6 => ?_)
  refine x_callVi C 6 [.int v1] [] rfl tw_1575 mv_X9_isCopy (Nat.le_of_ble_eq_true rfl) (Nat.le_of_ble_eq_true rfl) (Nat.le_of_ble_eq_true rfl) (Nat.le_of_ble_eq_true rfl) (km_0 V _) rfl dX9_alike_6 (c_X9_isCopy V _ _ _ h6) ?_
  refine x_if_eq C 9 20 dX9_alike_9 (by decide) (fun _ => ?_) (fun _ => ?_)
  · refine x_iconst C 20 dX9_alike_20 ki_m1 ?_
    refine x_goto C 21 38 dX9_alike_21 (by decide) ?_
    exact x_iret2 C R 38 dX9_alike_38
  · refine x_aload_n C 12 0 dX9_alike_12 rfl ?_
    refine x_iload_n C 13 2 dX9_alike_13 rfl ?_
    refine Y_bnd1 (fun r14 h14 => ?_)
    refine x_callVi C 14 [.int v2] [] rfl tw_1575 mv_X9_isCopy (Nat.le_of_ble_eq_true rfl) (Nat.le_of_ble_eq_true rfl) (Nat.le_of_ble_eq_true rfl) (Nat.le_of_ble_eq_true rfl) (km_0 V _) rfl dX9_alike_14 (c_X9_isCopy V _ _ _ h14) ?_
    refine x_if_ne C 17 24 dX9_alike_17 (by decide) (fun _ => ?_) (fun _ => ?_)
    · refine x_aload_n C 24 0 dX9_alike_24 rfl ?_
      refine x_iload_n C 25 1 dX9_alike_25 rfl ?_
      refine x_iload_n C 26 2 dX9_alike_26 rfl ?_
      refine Y_bnd1 (fun r27 h27 => ?_)
      refine x_callVi C 27 [.int v1, .int v2] [] rfl tw_1826 mv_X9_areAlike (Nat.le_of_ble_eq_true rfl) (Nat.le_of_ble_eq_true rfl) (Nat.le_of_ble_eq_true rfl) (Nat.le_of_ble_eq_true rfl) (km_0 V _) rfl dX9_alike_27 (c_X9_areAlike V _ _ _ _ h27) ?_
      refine x_if_eq C 30 37 dX9_alike_30 (by decide) (fun _ => ?_) (fun _ => ?_)
      · refine x_iconst C 37 dX9_alike_37 ki_0 ?_
        exact x_iret2 C R 38 dX9_alike_38
      · refine x_iconst C 33 dX9_alike_33 ki_1 ?_
        refine x_goto C 34 38 dX9_alike_34 (by decide) ?_
        exact x_iret2 C R 38 dX9_alike_38
    · refine x_iconst C 20 dX9_alike_20 ki_m1 ?_
      refine x_goto C 21 38 dX9_alike_21 (by decide) ?_
      exact x_iret2 C R 38 dX9_alike_38
def M_X9_fork (σ : Wd) (v1 : Int32) (v2 : Int32) : Option (Int32 × Wd) :=
  bnd1 (M_X9_isCopy σ v1) fun r2 => if r2 = 0 then (some ((-1 : Int32), σ)) else (bnd1 (M_X9_isCopy σ v2) fun r10 => if r10 ≠ 0 then (bnd1 (M_X9_copiesNow σ) fun s_19 => bnd1 (M_X9_fillsLog s_19 v1) fun s_24 => bnd1 (M_X9_keepsLog s_24) fun s_28 => bnd1 (M_X9_fillsLog s_28 v2) fun s_33 => bnd1 (M_X9_alikeLogs s_33) fun r37 => some (r37, s_33)) else (some ((-1 : Int32), σ)))
set_option maxRecDepth 100000 in
set_option maxHeartbeats 4000000 in
theorem c_X9_fork (V : Vt) (l : Launch) (σ : Wd) (v1 : Int32) (v2 : Int32) {r : Int32} {σ2 : Wd} (h : M_X9_fork σ v1 v2 = some (r, σ2)) : Ct l (Zm V) yX9_fork cX9_fork 3 (some .int) 3 70 [.ref (zA (Zm V) 0), .int v1, .int v2] σ (some (.int r)) σ2 := by
  refine Ct_intro (own := RX9) zm_ok (by decide +kernel) rfl (Nat.le_of_ble_eq_true rfl) [(0, .ref (zA (Zm V) 0)), (1, .int v1), (2, .int v2)] rfl (fun K C R hKl hnL => ?_)
  have hN := nl_of hnL
  subst hKl
  refine Y_end h ?_
  unfold M_X9_fork
  refine x_aload_n C 0 0 dX9_fork_0 rfl ?_
  refine x_iload_n C 1 1 dX9_fork_1 rfl ?_
  refine Y_bnd1 (fun r2 h2 => ?_)
  refine x_callVi C 2 [.int v1] [] rfl tw_1575 mv_X9_isCopy (Nat.le_of_ble_eq_true rfl) (Nat.le_of_ble_eq_true rfl) (Nat.le_of_ble_eq_true rfl) (Nat.le_of_ble_eq_true rfl) (km_0 V _) rfl dX9_fork_2 (c_X9_isCopy V _ _ _ h2) ?_
  refine x_if_eq C 5 16 dX9_fork_5 (by decide) (fun _ => ?_) (fun _ => ?_)
  · refine x_iconst C 16 dX9_fork_16 ki_m1 ?_
    exact x_iret2 C R 17 dX9_fork_17
  · refine x_aload_n C 8 0 dX9_fork_8 rfl ?_
    refine x_iload_n C 9 2 dX9_fork_9 rfl ?_
    refine Y_bnd1 (fun r10 h10 => ?_)
    refine x_callVi C 10 [.int v2] [] rfl tw_1575 mv_X9_isCopy (Nat.le_of_ble_eq_true rfl) (Nat.le_of_ble_eq_true rfl) (Nat.le_of_ble_eq_true rfl) (Nat.le_of_ble_eq_true rfl) (km_0 V _) rfl dX9_fork_10 (c_X9_isCopy V _ _ _ h10) ?_
    refine x_if_ne C 13 18 dX9_fork_13 (by decide) (fun _ => ?_) (fun _ => ?_)
    · refine x_aload_n C 18 0 dX9_fork_18 rfl ?_
      refine Y_bnd1 (fun s_19 h19 => ?_)
      refine x_callVv C 19 [] [] rfl tw_1579 mv_X9_copiesNow (Nat.le_of_ble_eq_true rfl) (Nat.le_of_ble_eq_true rfl) (Nat.le_of_ble_eq_true rfl) (Nat.le_of_ble_eq_true rfl) (km_0 V _) rfl dX9_fork_19 (c_X9_copiesNow V _ _  h19) ?_
      refine x_aload_n C 22 0 dX9_fork_22 rfl ?_
      refine x_iload_n C 23 1 dX9_fork_23 rfl ?_
      refine Y_bnd1 (fun s_24 h24 => ?_)
      refine x_callVv C 24 [.int v1] [] rfl tw_1631 mv_X9_fillsLog (Nat.le_of_ble_eq_true rfl) (Nat.le_of_ble_eq_true rfl) (Nat.le_of_ble_eq_true rfl) (Nat.le_of_ble_eq_true rfl) (km_0 V _) rfl dX9_fork_24 (c_X9_fillsLog V _ _ _ h24) ?_
      refine x_aload_n C 27 0 dX9_fork_27 rfl ?_
      refine Y_bnd1 (fun s_28 h28 => ?_)
      refine x_callVv C 28 [] [] rfl tw_1715 mv_X9_keepsLog (Nat.le_of_ble_eq_true rfl) (Nat.le_of_ble_eq_true rfl) (Nat.le_of_ble_eq_true rfl) (Nat.le_of_ble_eq_true rfl) (km_0 V _) rfl dX9_fork_28 (c_X9_keepsLog V _ _  h28) ?_
      refine x_aload_n C 31 0 dX9_fork_31 rfl ?_
      refine x_iload_n C 32 2 dX9_fork_32 rfl ?_
      refine Y_bnd1 (fun s_33 h33 => ?_)
      refine x_callVv C 33 [.int v2] [] rfl tw_1631 mv_X9_fillsLog (Nat.le_of_ble_eq_true rfl) (Nat.le_of_ble_eq_true rfl) (Nat.le_of_ble_eq_true rfl) (Nat.le_of_ble_eq_true rfl) (km_0 V _) rfl dX9_fork_33 (c_X9_fillsLog V _ _ _ h33) ?_
      refine x_aload_n C 36 0 dX9_fork_36 rfl ?_
      refine Y_bnd1 (fun r37 h37 => ?_)
      refine x_callVi C 37 [] [] rfl tw_1723 mv_X9_alikeLogs (Nat.le_of_ble_eq_true rfl) (Nat.le_of_ble_eq_true rfl) (Nat.le_of_ble_eq_true rfl) (Nat.le_of_ble_eq_true rfl) (km_0 V _) rfl dX9_fork_37 (c_X9_alikeLogs V _ _  h37) ?_
      exact x_iret2 C R 40 dX9_fork_40
    · refine x_iconst C 16 dX9_fork_16 ki_m1 ?_
      exact x_iret2 C R 17 dX9_fork_17
