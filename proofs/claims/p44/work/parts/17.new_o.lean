/-! the class's constructor -/
set_option maxRecDepth 100000 in
set_option maxHeartbeats 3000000 in
theorem i_X8 (l : Launch) (D : va_G) (cy : Nat → ClassId) (ax : Nat → Nat) (h0 : Nat) {σ1 : Wd} (h : M_X1_begin sg8 3 0 = some σ1) : Cn l D cy yX8_init cX8_init 2 3 53 126 12246 h0 [] (.inr (8, [.null, .int 0, .int 0, .null, .null, .null, .null, .null, .null, .null, .null, .null, .null])) (fun sz U => zx0 ax (va_A [(h0, .inr (8, [.null, .int 0, .int 0, .null, .null, .null, .null, .null, .null, .null, .null, .null, .null]))] sz) U) (fun u => zW (Zc (D, adz h0 u, cy, ax)) σ1) := by
  refine Cn_intro (own := RX8) (by decide +kernel) rfl rfl (Nat.le_of_ble_eq_true rfl) [(0, .ref h0)] rfl (fun p e R s m args below meth c C hi hX hh => ?_)
  have hN := nl_of (K := (p, l, e, R, s, m, args, below, meth, c, 2, MQ below (va_Qv (fun _ : Nat → Nat => True) (fun u t => va_P D vwCl (zW (Zc (D, adz h0 u, cy, ax)) σ1) t.heap ∧ va_D (va_A [(h0, .inr (8, [.null, .int 0, .int 0, .null, .null, .null, .null, .null, .null, .null, .null, .null, .null]))] s.heap.size) (zW (Zc (D, adz h0 u, cy, ax)) σ1)) (va_A [(h0, .inr (8, [.null, .int 0, .int 0, .null, .null, .null, .null, .null, .null, .null, .null, .null, .null]))] s.heap.size)) args s 126 12246 (va_A [(h0, .inr (8, [.null, .int 0, .int 0, .null, .null, .null, .null, .null, .null, .null, .null, .null, .null]))] s.heap.size), 0, 0)) rfl
  refine n_aload_n C 0 0 dX8_init_0 rfl ?_
  refine n_objInit C 1 tw_63 tw_64 tw_65 (Nat.le_of_ble_eq_true rfl) (Nat.le_of_ble_eq_true rfl) dX8_init_1 ?_
  refine n_aload_n C 4 0 dX8_init_4 rfl ?_
  refine n_sipush C 5 dX8_init_5 ks_2000 ?_
  refine m_newa (ty := .byte) (N := 2000) (a0 := (2000, .inl (fun _ => 0))) C 8 0 rfl tw_141 rfl (fun _ h => h) (fun _ => rfl) (by decide) rfl (Nat.le_of_ble_eq_true rfl) (Nat.le_of_ble_eq_true rfl) (Nat.le_of_ble_eq_true rfl) dX8_init_8 (fun q8 => ?_)
  refine m_putF (ty := .array .byte) (fs' := [.ref q8, .int 0, .int 0, .null, .null, .null, .null, .null, .null, .null, .null, .null, .null]) C hi 10 (show vwCl[8]? = some (RX8, TX8, 13) from rfl) in_X8 tyX8 tyX8_ok nmX8 0 (Nat.le_of_ble_eq_true rfl) tw_357 rfl rfl rfl (by decide +kernel) rfl rfl (Nat.le_of_ble_eq_true rfl) rfl dX8_init_10 ?_
  refine n_aload_n C 13 0 dX8_init_13 rfl ?_
  refine n_iconst C 14 dX8_init_14 ki_0 ?_
  refine m_put (ty := .int) (fs' := [.ref q8, .int (0 : Int32), .int 0, .null, .null, .null, .null, .null, .null, .null, .null, .null, .null]) C 15 (show vwCl[8]? = some (RX8, TX8, 13) from rfl) in_X8 tyX8 tyX8_ok nmX8 1 (Nat.le_of_ble_eq_true rfl) tw_358 rfl rfl (by decide +kernel) rfl rfl (Nat.le_of_ble_eq_true rfl) rfl dX8_init_15 ?_
  refine n_aload_n C 18 0 dX8_init_18 rfl ?_
  refine n_iconst C 19 dX8_init_19 ki_m1 ?_
  refine m_put (ty := .int) (fs' := [.ref q8, .int (0 : Int32), .int (-1 : Int32), .null, .null, .null, .null, .null, .null, .null, .null, .null, .null]) C 20 (show vwCl[8]? = some (RX8, TX8, 13) from rfl) in_X8 tyX8 tyX8_ok nmX8 2 (Nat.le_of_ble_eq_true rfl) tw_359 rfl rfl (by decide +kernel) rfl rfl (Nat.le_of_ble_eq_true rfl) rfl dX8_init_20 ?_
  refine n_aload_n C 23 0 dX8_init_23 rfl ?_
  refine m_new (ci := 7) (fs := [.int 0, .int 0, .int 0, .int 0, .int 0, .null, .null, .null, .null, .null, .null, .null, .null, .int 0]) C 24 in_X7 tyX7 tyX7_ok tw_66 tw_67 tw_40 rfl df_X7 (Nat.le_of_ble_eq_true rfl) (Nat.le_of_ble_eq_true rfl) dX8_init_24 (fun q24 => ?_)
  refine n_dup C 27 dX8_init_27 rfl ?_
  refine m_init (rest := [.ref q24, .ref h0]) C 28 [] tw_68 mw_X7 tw_69 rfl (i_X7 (Kl _) D cy q24 ) (Nat.le_of_ble_eq_true rfl) (Nat.le_of_ble_eq_true rfl) (Nat.le_of_ble_eq_true rfl) (Nat.le_of_ble_eq_true rfl) (Nat.le_of_ble_eq_true rfl) rfl dX8_init_28 (fun u24 => ?_)
  refine m_put (ty := .object "TentativeDesk$Told") (fs' := [.ref q8, .int (0 : Int32), .int (-1 : Int32), .null, .ref q24, .null, .null, .null, .null, .null, .null, .null, .null]) C 31 (show vwCl[8]? = some (RX8, TX8, 13) from rfl) in_X8 tyX8 tyX8_ok nmX8 4 (Nat.le_of_ble_eq_true rfl) tw_361 rfl rfl (by decide +kernel) rfl rfl (Nat.le_of_ble_eq_true rfl) rfl dX8_init_31 ?_
  refine n_aload_n C 34 0 dX8_init_34 rfl ?_
  refine m_new (ci := 7) (fs := [.int 0, .int 0, .int 0, .int 0, .int 0, .null, .null, .null, .null, .null, .null, .null, .null, .int 0]) C 35 in_X7 tyX7 tyX7_ok tw_66 tw_67 tw_40 rfl df_X7 (Nat.le_of_ble_eq_true rfl) (Nat.le_of_ble_eq_true rfl) dX8_init_35 (fun q35 => ?_)
  refine n_dup C 38 dX8_init_38 rfl ?_
  refine m_init (rest := [.ref q35, .ref h0]) C 39 [] tw_68 mw_X7 tw_69 rfl (i_X7 (Kl _) D cy q35 ) (Nat.le_of_ble_eq_true rfl) (Nat.le_of_ble_eq_true rfl) (Nat.le_of_ble_eq_true rfl) (Nat.le_of_ble_eq_true rfl) (Nat.le_of_ble_eq_true rfl) rfl dX8_init_39 (fun u35 => ?_)
  refine m_put (ty := .object "TentativeDesk$Told") (fs' := [.ref q8, .int (0 : Int32), .int (-1 : Int32), .null, .ref q24, .ref q35, .null, .null, .null, .null, .null, .null, .null]) C 42 (show vwCl[8]? = some (RX8, TX8, 13) from rfl) in_X8 tyX8 tyX8_ok nmX8 5 (Nat.le_of_ble_eq_true rfl) tw_362 rfl rfl (by decide +kernel) rfl rfl (Nat.le_of_ble_eq_true rfl) rfl dX8_init_42 ?_
  refine n_aload_n C 45 0 dX8_init_45 rfl ?_
  refine m_new (ci := 3) (fs := [.null, .null, .null, .int 0, .null, .int 0, .null, .int 0, .int 0, .int 0, .int 0]) C 46 in_X3 tyX3 tyX3_ok tw_144 tw_145 tw_41 rfl df_X3 (Nat.le_of_ble_eq_true rfl) (Nat.le_of_ble_eq_true rfl) dX8_init_46 (fun q46 => ?_)
  refine n_dup C 49 dX8_init_49 rfl ?_
  refine n_aload_n C 50 0 dX8_init_50 rfl ?_
  refine n_get C 51 0 rfl (show vwCl[8]? = some (RX8, TX8, 13) from rfl) in_X8 5 (Nat.le_of_ble_eq_true rfl) tw_362 rfl rfl dX8_init_51 ?_
  refine m_init (rest := [.ref q46, .ref h0]) C 54 [.ref q35] tw_146 mw_X3 tw_147 rfl (i_X3 (Kl _) D cy q46 q35) (Nat.le_of_ble_eq_true rfl) (Nat.le_of_ble_eq_true rfl) (Nat.le_of_ble_eq_true rfl) (Nat.le_of_ble_eq_true rfl) (Nat.le_of_ble_eq_true rfl) rfl dX8_init_54 (fun u46 => ?_)
  refine m_putF (ty := .object "TentativeDesk$Reader") (fs' := [.ref q8, .int (0 : Int32), .int (-1 : Int32), .ref q46, .ref q24, .ref q35, .null, .null, .null, .null, .null, .null, .null]) C hi 57 (show vwCl[8]? = some (RX8, TX8, 13) from rfl) in_X8 tyX8 tyX8_ok nmX8 3 (Nat.le_of_ble_eq_true rfl) tw_360 rfl rfl rfl (by decide +kernel) rfl rfl (Nat.le_of_ble_eq_true rfl) rfl dX8_init_57 ?_
  refine n_aload_n C 60 0 dX8_init_60 rfl ?_
  refine m_new (ci := 1) (fs := [.null, .null, .null, .null, .null, .null, .null, .null]) C 61 in_X1 tyX1 tyX1_ok tw_210 tw_211 tw_43 rfl df_X1 (Nat.le_of_ble_eq_true rfl) (Nat.le_of_ble_eq_true rfl) dX8_init_61 (fun q61 => ?_)
  refine n_dup C 64 dX8_init_64 rfl ?_
  refine m_initN (rest := [.ref q61, .ref h0]) C 65 [] (host := RX8) (by simp [NWl]) mw_X1 tw_213 rfl (i_X1 (Kl _) D cy q61 ) (Nat.le_of_ble_eq_true rfl) (Nat.le_of_ble_eq_true rfl) (Nat.le_of_ble_eq_true rfl) (Nat.le_of_ble_eq_true rfl) (Nat.le_of_ble_eq_true rfl) rfl dX8_init_65 (fun u61 => ?_)
  refine m_putF (ty := .object "TentativeDesk$Going") (fs' := [.ref q8, .int (0 : Int32), .int (-1 : Int32), .ref q46, .ref q24, .ref q35, .ref q61, .null, .null, .null, .null, .null, .null]) C hi 68 (show vwCl[8]? = some (RX8, TX8, 13) from rfl) in_X8 tyX8 tyX8_ok nmX8 6 (Nat.le_of_ble_eq_true rfl) tw_363 rfl rfl rfl (by decide +kernel) rfl rfl (Nat.le_of_ble_eq_true rfl) rfl dX8_init_68 ?_
  refine n_aload_n C 71 0 dX8_init_71 rfl ?_
  refine m_new (ci := 2) (fs := [.null, .int 0, .int 0]) C 72 in_X2 tyX2 tyX2_ok tw_250 tw_251 tw_44 rfl df_X2 (Nat.le_of_ble_eq_true rfl) (Nat.le_of_ble_eq_true rfl) dX8_init_72 (fun q72 => ?_)
  refine n_dup C 75 dX8_init_75 rfl ?_
  refine m_initN (rest := [.ref q72, .ref h0]) C 76 [] (host := RX8) (by simp [NWl]) mw_X2 tw_253 rfl (i_X2 (Kl _) D cy q72 ) (Nat.le_of_ble_eq_true rfl) (Nat.le_of_ble_eq_true rfl) (Nat.le_of_ble_eq_true rfl) (Nat.le_of_ble_eq_true rfl) (Nat.le_of_ble_eq_true rfl) rfl dX8_init_76 (fun u72 => ?_)
  refine m_putF (ty := .object "TentativeDesk$Past") (fs' := [.ref q8, .int (0 : Int32), .int (-1 : Int32), .ref q46, .ref q24, .ref q35, .ref q61, .ref q72, .null, .null, .null, .null, .null]) C hi 79 (show vwCl[8]? = some (RX8, TX8, 13) from rfl) in_X8 tyX8 tyX8_ok nmX8 7 (Nat.le_of_ble_eq_true rfl) tw_364 rfl rfl rfl (by decide +kernel) rfl rfl (Nat.le_of_ble_eq_true rfl) rfl dX8_init_79 ?_
  refine n_aload_n C 82 0 dX8_init_82 rfl ?_
  refine n_iconst C 83 dX8_init_83 ki_3 ?_
  refine m_anewG (N := 3) C 84 tw_210 (by decide) rfl (Nat.le_of_ble_eq_true rfl) (Nat.le_of_ble_eq_true rfl) (Nat.le_of_ble_eq_true rfl) dX8_init_84 (fun q84 => ?_)
  refine m_putF (ty := .array (.object "TentativeDesk$Going")) (fs' := [.ref q8, .int (0 : Int32), .int (-1 : Int32), .ref q46, .ref q24, .ref q35, .ref q61, .ref q72, .ref q84, .null, .null, .null, .null]) C hi 87 (show vwCl[8]? = some (RX8, TX8, 13) from rfl) in_X8 tyX8 tyX8_ok nmX8 8 (Nat.le_of_ble_eq_true rfl) tw_365 rfl rfl rfl (by decide +kernel) rfl rfl (Nat.le_of_ble_eq_true rfl) rfl dX8_init_87 ?_
  refine n_aload_n C 90 0 dX8_init_90 rfl ?_
  refine n_iconst C 91 dX8_init_91 ki_3 ?_
  refine m_newa (ty := .boolean) (N := 3) (a0 := (3, .inl (fun _ => 0))) C 92 3 rfl tw_143 rfl (fun _ h => h) (fun _ => rfl) (by decide) rfl (Nat.le_of_ble_eq_true rfl) (Nat.le_of_ble_eq_true rfl) (Nat.le_of_ble_eq_true rfl) dX8_init_92 (fun q92 => ?_)
  refine m_putF (ty := .array .boolean) (fs' := [.ref q8, .int (0 : Int32), .int (-1 : Int32), .ref q46, .ref q24, .ref q35, .ref q61, .ref q72, .ref q84, .ref q92, .null, .null, .null]) C hi 94 (show vwCl[8]? = some (RX8, TX8, 13) from rfl) in_X8 tyX8 tyX8_ok nmX8 9 (Nat.le_of_ble_eq_true rfl) tw_366 rfl rfl rfl (by decide +kernel) rfl rfl (Nat.le_of_ble_eq_true rfl) rfl dX8_init_94 ?_
  refine n_iconst C 97 dX8_init_97 ki_0 ?_
  refine n_istore_n (L' := [(1, .int (0 : Int32)), (0, .ref h0)]) C 98 dX8_init_98 rfl (hN _ (Nat.le_of_ble_eq_true rfl)) rfl ?_
  refine n_iload_n C 99 0 dX8_init_99 rfl ?_
  refine n_iconst C 100 dX8_init_100 ki_3 ?_
  refine n_ge_in C 101 123 dX8_init_101 (by decide) (by decide) ?_
  refine n_aload_n C 104 1 dX8_init_104 rfl ?_
  refine n_get C 105 0 rfl (show vwCl[8]? = some (RX8, TX8, 13) from rfl) in_X8 8 (Nat.le_of_ble_eq_true rfl) tw_365 rfl rfl dX8_init_105 ?_
  refine n_iload_n C 108 0 dX8_init_108 rfl ?_
  refine m_new (ci := 1) (fs := [.null, .null, .null, .null, .null, .null, .null, .null]) C 109 in_X1 tyX1 tyX1_ok tw_210 tw_211 tw_43 rfl df_X1 (Nat.le_of_ble_eq_true rfl) (Nat.le_of_ble_eq_true rfl) dX8_init_109 (fun q109 => ?_)
  refine n_dup C 112 dX8_init_112 rfl ?_
  refine m_initN (rest := [.ref q109, .int (0 : Int32), .ref q84]) C 113 [] (host := RX8) (by simp [NWl]) mw_X1 tw_213 rfl (i_X1 (Kl _) D cy q109 ) (Nat.le_of_ble_eq_true rfl) (Nat.le_of_ble_eq_true rfl) (Nat.le_of_ble_eq_true rfl) (Nat.le_of_ble_eq_true rfl) (Nat.le_of_ble_eq_true rfl) rfl dX8_init_113 (fun u109 => ?_)
  refine m_aast (jj := 0) (tl' := (nw_X1 cy q109 u109 ++ ((q92, .inl (cy 3, 3, .inl (fun _ => 0))) :: ((q84, .inl (cy 4, 3, .inr (.inr (.inr (.inr (va_up (fun _ => none) 0 (some q109))))))) :: (nw_X2 cy q72 u72 ++ (nw_X1 cy q61 u61 ++ (nw_X3 cy q46 q35 u46 ++ (nw_X7 cy q35 u35 ++ (nw_X7 cy q24 u24 ++ ((q8, .inl (cy 0, 2000, .inl (fun _ => 0))) :: ([] : va_W))))))))))) C 116 10 0 rfl rfl rfl (by decide) rfl rfl dX8_init_116 ?_
  refine n_iinc (v := (1 : Int32)) (L' := [(1, .int (1 : Int32)), (0, .ref h0)]) C 117 0 dX8_init_117 rfl (by decide) (hN _ (Nat.le_of_ble_eq_true rfl)) rfl ?_
  refine n_goto C 120 99 dX8_init_120 (by decide) ?_
  refine n_iload_n C 99 0 dX8_init_99 rfl ?_
  refine n_iconst C 100 dX8_init_100 ki_3 ?_
  refine n_ge_in C 101 123 dX8_init_101 (by decide) (by decide) ?_
  refine n_aload_n C 104 1 dX8_init_104 rfl ?_
  refine n_get C 105 0 rfl (show vwCl[8]? = some (RX8, TX8, 13) from rfl) in_X8 8 (Nat.le_of_ble_eq_true rfl) tw_365 rfl rfl dX8_init_105 ?_
  refine n_iload_n C 108 0 dX8_init_108 rfl ?_
  refine m_new (ci := 1) (fs := [.null, .null, .null, .null, .null, .null, .null, .null]) C 109 in_X1 tyX1 tyX1_ok tw_210 tw_211 tw_43 rfl df_X1 (Nat.le_of_ble_eq_true rfl) (Nat.le_of_ble_eq_true rfl) dX8_init_109 (fun q109_9 => ?_)
  refine n_dup C 112 dX8_init_112 rfl ?_
  refine m_initN (rest := [.ref q109_9, .int (1 : Int32), .ref q84]) C 113 [] (host := RX8) (by simp [NWl]) mw_X1 tw_213 rfl (i_X1 (Kl _) D cy q109_9 ) (Nat.le_of_ble_eq_true rfl) (Nat.le_of_ble_eq_true rfl) (Nat.le_of_ble_eq_true rfl) (Nat.le_of_ble_eq_true rfl) (Nat.le_of_ble_eq_true rfl) rfl dX8_init_113 (fun u109_9 => ?_)
  refine m_aast (jj := 1) (tl' := (nw_X1 cy q109_9 u109_9 ++ (nw_X1 cy q109 u109 ++ ((q92, .inl (cy 3, 3, .inl (fun _ => 0))) :: ((q84, .inl (cy 4, 3, .inr (.inr (.inr (.inr (va_up (va_up (fun _ => none) 0 (some q109)) 1 (some q109_9))))))) :: (nw_X2 cy q72 u72 ++ (nw_X1 cy q61 u61 ++ (nw_X3 cy q46 q35 u46 ++ (nw_X7 cy q35 u35 ++ (nw_X7 cy q24 u24 ++ ((q8, .inl (cy 0, 2000, .inl (fun _ => 0))) :: ([] : va_W)))))))))))) C 116 19 0 rfl rfl rfl (by decide) rfl rfl dX8_init_116 ?_
  refine n_iinc (v := (2 : Int32)) (L' := [(1, .int (2 : Int32)), (0, .ref h0)]) C 117 0 dX8_init_117 rfl (by decide) (hN _ (Nat.le_of_ble_eq_true rfl)) rfl ?_
  refine n_goto C 120 99 dX8_init_120 (by decide) ?_
  refine n_iload_n C 99 0 dX8_init_99 rfl ?_
  refine n_iconst C 100 dX8_init_100 ki_3 ?_
  refine n_ge_in C 101 123 dX8_init_101 (by decide) (by decide) ?_
  refine n_aload_n C 104 1 dX8_init_104 rfl ?_
  refine n_get C 105 0 rfl (show vwCl[8]? = some (RX8, TX8, 13) from rfl) in_X8 8 (Nat.le_of_ble_eq_true rfl) tw_365 rfl rfl dX8_init_105 ?_
  refine n_iload_n C 108 0 dX8_init_108 rfl ?_
  refine m_new (ci := 1) (fs := [.null, .null, .null, .null, .null, .null, .null, .null]) C 109 in_X1 tyX1 tyX1_ok tw_210 tw_211 tw_43 rfl df_X1 (Nat.le_of_ble_eq_true rfl) (Nat.le_of_ble_eq_true rfl) dX8_init_109 (fun q109_10 => ?_)
  refine n_dup C 112 dX8_init_112 rfl ?_
  refine m_initN (rest := [.ref q109_10, .int (2 : Int32), .ref q84]) C 113 [] (host := RX8) (by simp [NWl]) mw_X1 tw_213 rfl (i_X1 (Kl _) D cy q109_10 ) (Nat.le_of_ble_eq_true rfl) (Nat.le_of_ble_eq_true rfl) (Nat.le_of_ble_eq_true rfl) (Nat.le_of_ble_eq_true rfl) (Nat.le_of_ble_eq_true rfl) rfl dX8_init_113 (fun u109_10 => ?_)
  refine m_aast (jj := 2) (tl' := (nw_X1 cy q109_10 u109_10 ++ (nw_X1 cy q109_9 u109_9 ++ (nw_X1 cy q109 u109 ++ ((q92, .inl (cy 3, 3, .inl (fun _ => 0))) :: ((q84, .inl (cy 4, 3, .inr (.inr (.inr (.inr (va_up (va_up (va_up (fun _ => none) 0 (some q109)) 1 (some q109_9)) 2 (some q109_10))))))) :: (nw_X2 cy q72 u72 ++ (nw_X1 cy q61 u61 ++ (nw_X3 cy q46 q35 u46 ++ (nw_X7 cy q35 u35 ++ (nw_X7 cy q24 u24 ++ ((q8, .inl (cy 0, 2000, .inl (fun _ => 0))) :: ([] : va_W))))))))))))) C 116 28 0 rfl rfl rfl (by decide) rfl rfl dX8_init_116 ?_
  refine n_iinc (v := (3 : Int32)) (L' := [(1, .int (3 : Int32)), (0, .ref h0)]) C 117 0 dX8_init_117 rfl (by decide) (hN _ (Nat.le_of_ble_eq_true rfl)) rfl ?_
  refine n_goto C 120 99 dX8_init_120 (by decide) ?_
  refine n_iload_n C 99 0 dX8_init_99 rfl ?_
  refine n_iconst C 100 dX8_init_100 ki_3 ?_
  refine n_ge_out C 101 123 dX8_init_101 (by decide) (by decide) ?_
  refine n_aload_n C 123 1 dX8_init_123 rfl ?_
  refine m_new (ci := 4) (fs := [.null, .null, .int 0, .null, .null, .null, .null, .int 0, .int 0]) C 124 in_X4 tyX4 tyX4_ok tw_270 tw_271 tw_45 rfl df_X4 (Nat.le_of_ble_eq_true rfl) (Nat.le_of_ble_eq_true rfl) dX8_init_124 (fun q124 => ?_)
  refine n_dup C 127 dX8_init_127 rfl ?_
  refine m_initN (rest := [.ref q124, .ref h0]) C 128 [] (host := RX8) (by simp [NWl]) mw_X4 tw_273 rfl (i_X4 (Kl _) D cy q124 ) (Nat.le_of_ble_eq_true rfl) (Nat.le_of_ble_eq_true rfl) (Nat.le_of_ble_eq_true rfl) (Nat.le_of_ble_eq_true rfl) (Nat.le_of_ble_eq_true rfl) rfl dX8_init_128 (fun u124 => ?_)
  refine m_putF (ty := .object "TentativeDesk$Replay") (fs' := [.ref q8, .int (0 : Int32), .int (-1 : Int32), .ref q46, .ref q24, .ref q35, .ref q61, .ref q72, .ref q84, .ref q92, .ref q124, .null, .null]) C hi 131 (show vwCl[8]? = some (RX8, TX8, 13) from rfl) in_X8 tyX8 tyX8_ok nmX8 10 (Nat.le_of_ble_eq_true rfl) tw_367 rfl rfl rfl (by decide +kernel) rfl rfl (Nat.le_of_ble_eq_true rfl) rfl dX8_init_131 ?_
  refine n_aload_n C 134 1 dX8_init_134 rfl ?_
  refine m_new (ci := 4) (fs := [.null, .null, .int 0, .null, .null, .null, .null, .int 0, .int 0]) C 135 in_X4 tyX4 tyX4_ok tw_270 tw_271 tw_45 rfl df_X4 (Nat.le_of_ble_eq_true rfl) (Nat.le_of_ble_eq_true rfl) dX8_init_135 (fun q135 => ?_)
  refine n_dup C 138 dX8_init_138 rfl ?_
  refine m_initN (rest := [.ref q135, .ref h0]) C 139 [] (host := RX8) (by simp [NWl]) mw_X4 tw_273 rfl (i_X4 (Kl _) D cy q135 ) (Nat.le_of_ble_eq_true rfl) (Nat.le_of_ble_eq_true rfl) (Nat.le_of_ble_eq_true rfl) (Nat.le_of_ble_eq_true rfl) (Nat.le_of_ble_eq_true rfl) rfl dX8_init_139 (fun u135 => ?_)
  refine m_putF (ty := .object "TentativeDesk$Replay") (fs' := [.ref q8, .int (0 : Int32), .int (-1 : Int32), .ref q46, .ref q24, .ref q35, .ref q61, .ref q72, .ref q84, .ref q92, .ref q124, .ref q135, .null]) C hi 142 (show vwCl[8]? = some (RX8, TX8, 13) from rfl) in_X8 tyX8 tyX8_ok nmX8 11 (Nat.le_of_ble_eq_true rfl) tw_368 rfl rfl rfl (by decide +kernel) rfl rfl (Nat.le_of_ble_eq_true rfl) rfl dX8_init_142 ?_
  refine n_aload_n C 145 1 dX8_init_145 rfl ?_
  refine m_new (ci := 5) (fs := [.null, .null, .int 0, .int 0, .int 0, .int 0]) C 146 in_X5 tyX5 tyX5_ok tw_328 tw_329 tw_47 rfl df_X5 (Nat.le_of_ble_eq_true rfl) (Nat.le_of_ble_eq_true rfl) dX8_init_146 (fun q146 => ?_)
  refine n_dup C 149 dX8_init_149 rfl ?_
  refine m_initN (rest := [.ref q146, .ref h0]) C 150 [] (host := RX8) (by simp [NWl]) mw_X5 tw_331 rfl (i_X5 (Kl _) D cy q146 ) (Nat.le_of_ble_eq_true rfl) (Nat.le_of_ble_eq_true rfl) (Nat.le_of_ble_eq_true rfl) (Nat.le_of_ble_eq_true rfl) (Nat.le_of_ble_eq_true rfl) rfl dX8_init_150 (fun u146 => ?_)
  refine m_putF (ty := .object "TentativeDesk$Season") (fs' := [.ref q8, .int (0 : Int32), .int (-1 : Int32), .ref q46, .ref q24, .ref q35, .ref q61, .ref q72, .ref q84, .ref q92, .ref q124, .ref q135, .ref q146]) C hi 153 (show vwCl[8]? = some (RX8, TX8, 13) from rfl) in_X8 tyX8 tyX8_ok nmX8 12 (Nat.le_of_ble_eq_true rfl) tw_369 rfl rfl rfl (by decide +kernel) rfl rfl (Nat.le_of_ble_eq_true rfl) rfl dX8_init_153 ?_
  show Gn _ _ _ (ws8 cy h0 q8 q24 u24 q35 u35 q46 u46 q61 u61 q72 u72 q84 q92 q109 u109 q109_9 u109_9 q109_10 u109_10 q124 u124 q135 u135 q146 u146) 126 12246 156 [(1, .int (3 : Int32)), (0, .ref h0)] []
  refine n_conv (Z := Zc (D, (ad8 h0 q8 q24 u24 q35 u35 q46 u46 q61 u61 q72 u72 q84 q92 q109 u109 q109_9 u109_9 q109_10 u109_10 q124 u124 q135 u135 q146 u146), cy, ax)) (σ := sg8) (conv8P D cy ax h0 q8 q24 u24 q35 u35 q46 u46 q61 u61 q72 u72 q84 q92 q109 u109 q109_9 u109_9 q109_10 u109_10 q124 u124 q135 u135 q146 u146) (conv8D D cy ax h0 q8 q24 u24 q35 u35 q46 u46 q61 u61 q72 u72 q84 q92 q109 u109 q109_9 u109_9 q109_10 u109_10 q124 u124 q135 u135 q146 u146 _) (fun hZ hzA => ?_)
  have hXX : ∀ K2 : Kt, (p, l, e, R, s, m, args, below, meth, c, 2, MQ below (va_Qv (fun _ : Nat → Nat => True) (fun u t => va_P D vwCl (zW (Zc (D, adz h0 u, cy, ax)) σ1) t.heap ∧ va_D (va_A [(h0, .inr (8, [.null, .int 0, .int 0, .null, .null, .null, .null, .null, .null, .null, .null, .null, .null]))] s.heap.size) (zW (Zc (D, adz h0 u, cy, ax)) σ1)) (va_A [(h0, .inr (8, [.null, .int 0, .int 0, .null, .null, .null, .null, .null, .null, .null, .null, .null, .null]))] s.heap.size)) args s 126 12246 (va_A [(h0, .inr (8, [.null, .int 0, .int 0, .null, .null, .null, .null, .null, .null, .null, .null, .null, .null]))] s.heap.size), 0, 0) = K2 → ∀ (H : Heap) (locs : List Loc), va_S (va_A [(h0, .inr (8, [.null, .int 0, .int 0, .null, .null, .null, .null, .null, .null, .null, .null, .null, .null]))] s.heap.size) K2.2.2.2.2.1.heap H locs → ∀ U : State, U.heap = H → K2.2.2.2.2.1.WarmedH U.vm → zX (Zc (D, (ad8 h0 q8 q24 u24 q35 u35 q46 u46 q61 u61 q72 u72 q84 q92 q109 u109 q109_9 u109_9 q109_10 u109_10 q124 u124 q135 u135 q146 u146), cy, ax)) U := by
    intro K2 hK2 H locs hS U hU hW
    subst hK2
    exact zx0_go hzA hX (fun a h1 h2 => by rw [hU]; exact hS.2.1 a h1 h2) hW
  refine n_aload_n C 156 1 dX8_init_156 rfl ?_
  refine n_get C 157 0 (zW_e (Nat.le_of_ble_eq_true rfl) (kc_0 _ _)) (show vwCl[8]? = some (RX8, TX8, 13) from rfl) in_X8 6 (Nat.le_of_ble_eq_true rfl) tw_363 rfl rfl dX8_init_157 ?_
  refine n_aload_n C 160 1 dX8_init_160 rfl ?_
  refine n_get C 161 0 (zW_e (Nat.le_of_ble_eq_true rfl) (kc_0 _ _)) (show vwCl[8]? = some (RX8, TX8, 13) from rfl) in_X8 4 (Nat.le_of_ble_eq_true rfl) tw_361 rfl rfl dX8_init_161 ?_
  refine n_get C 164 10 (zW_e (Nat.le_of_ble_eq_true rfl) (kT_0 _ (by decide) _)) (show vwCl[7]? = some (RX7, TX7, 14) from rfl) in_X7 0 (Nat.le_of_ble_eq_true rfl) tw_73 rfl rfl dX8_init_164 ?_
  refine n_aload_n C 167 1 dX8_init_167 rfl ?_
  refine n_get C 168 0 (zW_e (Nat.le_of_ble_eq_true rfl) (kc_0 _ _)) (show vwCl[8]? = some (RX8, TX8, 13) from rfl) in_X8 4 (Nat.le_of_ble_eq_true rfl) tw_361 rfl rfl dX8_init_168 ?_
  refine n_get C 171 10 (zW_e (Nat.le_of_ble_eq_true rfl) (kT_0 _ (by decide) _)) (show vwCl[7]? = some (RX7, TX7, 14) from rfl) in_X7 1 (Nat.le_of_ble_eq_true rfl) tw_75 rfl rfl dX8_init_171 ?_
  refine n_callV (rest := []) C rfl zc_ok hZ hzA hXX 174 [.int (3 : Int32), .int (0 : Int32)] rfl tw_353 mv_X1_begin (Nat.le_of_ble_eq_true rfl) (Nat.le_of_ble_eq_true rfl) (Nat.le_of_ble_eq_true rfl) (Nat.le_of_ble_eq_true rfl) (Nat.le_of_ble_eq_true rfl) (Nat.le_of_ble_eq_true rfl) (kc_28 _ _) rfl dX8_init_174 (c_X1_begin (D, (ad8 h0 q8 q24 u24 q35 u35 q46 u46 q61 u61 q72 u72 q84 q92 q109 u109 q109_9 u109_9 q109_10 u109_10 q124 u124 q135 u135 q146 u146), cy, ax) _ sg8 3 0 h) ?_
  exact n_ret (ad8 h0 q8 q24 u24 q35 u35 q46 u46 q61 u61 q72 u72 q84 q92 q109 u109 q109_9 u109_9 q109_10 u109_10 q124 u124 q135 u135 q146 u146) C hi.2 (fun H h => by show va_P D vwCl (zW (Zc (D, adz h0 (ad8 h0 q8 q24 u24 q35 u35 q46 u46 q61 u61 q72 u72 q84 q92 q109 u109 q109_9 u109_9 q109_10 u109_10 q124 u124 q135 u135 q146 u146), cy, ax)) σ1) H; rw [adz_eq (h0 := h0) (u := (ad8 h0 q8 q24 u24 q35 u35 q46 u46 q61 u61 q72 u72 q84 q92 q109 u109 q109_9 u109_9 q109_10 u109_10 q124 u124 q135 u135 q146 u146)) rfl]; exact h) (fun h => by show va_D _ (zW (Zc (D, adz h0 (ad8 h0 q8 q24 u24 q35 u35 q46 u46 q61 u61 q72 u72 q84 q92 q109 u109 q109_9 u109_9 q109_10 u109_10 q124 u124 q135 u135 q146 u146), cy, ax)) σ1); rw [adz_eq (h0 := h0) (u := (ad8 h0 q8 q24 u24 q35 u35 q46 u46 q61 u61 q72 u72 q84 q92 q109 u109 q109_9 u109_9 q109_10 u109_10 q124 u124 q135 u135 q146 u146)) rfl]; exact h) (Nat.le_of_ble_eq_true rfl) (Nat.le_of_ble_eq_true rfl) 177 dX8_init_177
