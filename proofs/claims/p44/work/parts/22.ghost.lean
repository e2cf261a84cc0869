/-! the model's programs, as ghosts: the class of p44 is held beside them; and what is said of each call -/
abbrev bI (x : Int32) : Int32 := if x = 0 then 0 else 1
def M_X9_lays_L3 (v1 : Int32) (v2 : Int32) (σ : Wd) : Option ((Int32 × Wd) ⊕ (Wd)) :=
  if v2 < 0 then (some (.inr σ)) else (chk (ib (gI σ 0 2) 2000) (lt (uI σ 1 (ix (gI σ 0 2)) (vp_nar .byte ((v1 >>> (v2 &&& 31)).toInt8.toInt32))) fun s_19 => lt (uI s_19 0 2 ((gI s_19 0 2) + (1 : Int32))) fun s_27 => lt (v2 + (-8 : Int32)) fun v2_30 => some (.inl (v2_30, s_27))))
def M_X9_lays (σ : Wd) (v1 : Int32) : Option Wd :=
  bnd1 (iter (fun s : Int32 × Wd => M_X9_lays_L3 v1 s.1 s.2) FU ((24 : Int32), σ)) (un1 fun sx_3 => (some sx_3))
def M_X9_feed (σ : Wd) (v1 : Int32) (v2 : Int32) (v3 : Int32) (v4 : Int32) (v5 : Int32) : Option (Int32 × Wd) :=
  if ((gI σ 0 2) + (20 : Int32)) ≤ (2000 : Int32) then (bnd1 (M_X9_lays σ v1) fun s_17 => bnd1 (M_X9_lays s_17 v2) fun s_22 => bnd1 (M_X9_lays s_22 v3) fun s_27 => bnd1 (M_X9_lays s_27 v4) fun s_33 => bnd1 (M_X9_lays s_33 v5) fun s_39 => some ((gI s_39 0 2), s_39)) else (some ((-1 : Int32), σ))
def M_X9_back (σ : Wd) (v1 : Int32) : Option (Int32 × Wd) :=
  if v1 < 0 then (some ((-1 : Int32), σ)) else (if v1 ≤ (gI σ 0 2) then (lt (uI σ 0 2 ((gI σ 0 2) - v1)) fun s_21 => some ((gI s_21 0 2), s_21)) else (some ((-1 : Int32), σ)))
def M_X9_byteAt (σ : Wd) (v1 : Int32) : Option Int32 :=
  if (gI σ 0 4) ≤ v1 then (some (0 : Int32)) else (chk (ib v1 2000) (some ((gI σ 2 (ix v1)) &&& (255 : Int32))))
def M_X9_isDigit (v0 : Int32) : Option Int32 :=
  if v0 < (48 : Int32) then (some (0 : Int32)) else (if (57 : Int32) < v0 then (some (0 : Int32)) else (some (1 : Int32)))
def M_X9_isLetter (v0 : Int32) : Option Int32 :=
  if v0 < (97 : Int32) then (some (0 : Int32)) else (if (122 : Int32) < v0 then (some (0 : Int32)) else (some (1 : Int32)))
def M_X9_appends (v0 : Int64) (v2 : Int32) : Option Int64 :=
  if v2 ≠ 0 then (some (((27 : Int64) * v0) + ((v2 - (97 : Int32)) + (1 : Int32)).toInt64)) else (some v0)
def M_X9_letters (v0 : Int32) (v1 : Int32) (v2 : Int32) (v3 : Int32) (v4 : Int32) (v5 : Int32) (v6 : Int32) : Option Int64 :=
  bnd1 (M_X9_appends (0 : Int64) v0) fun r2 => bnd1 (M_X9_appends r2 v1) fun r6 => bnd1 (M_X9_appends r6 v2) fun r10 => bnd1 (M_X9_appends r10 v3) fun r14 => bnd1 (M_X9_appends r14 v4) fun r19 => bnd1 (M_X9_appends r19 v5) fun r24 => bnd1 (M_X9_appends r24 v6) fun r29 => some r29
def M_X9_token (σ : Wd) (v1 : Int32) (v2 : Int32) (v3 : Int32) (v4 : Int64) : Option Wd :=
  chk (ib (gI σ 0 10) 403) (lt (uI σ 3 (ix (gI σ 0 10)) v1) fun s_9 => chk (ib (gI s_9 0 10) 403) (lt (uI s_9 4 (ix (gI s_9 0 10)) v2) fun s_19 => chk (ib (gI s_19 0 10) 403) (lt (uI s_19 5 (ix (gI s_19 0 10)) v3) fun s_29 => chk (ib (gI s_29 0 10) 403) (lt (uL s_29 6 (ix (gI s_29 0 10)) v4) fun s_40 => lt (uI s_40 0 10 ((gI s_40 0 10) + (1 : Int32))) fun s_48 => some s_48))))
def M_X9_sign_J95 (σ : Wd) (v1 : Int32) (v4 : Int32) : Option (Int32 × Wd) :=
  bnd1 (M_X9_token σ v4 v1 (0 : Int32) (0 : Int64)) fun s_101 => some ((1 : Int32), s_101)
def M_X9_sign_J85 (σ : Wd) (v1 : Int32) (v2 : Int32) (v4 : Int32) : Option (Int32 × Wd) :=
  if v2 ≠ (60 : Int32) then (M_X9_sign_J95 σ v1 v4) else (M_X9_sign_J95 σ v1 (13 : Int32))
def M_X9_sign_J75 (σ : Wd) (v1 : Int32) (v2 : Int32) (v4 : Int32) : Option (Int32 × Wd) :=
  if v2 ≠ (47 : Int32) then (M_X9_sign_J85 σ v1 v2 v4) else (M_X9_sign_J85 σ v1 v2 (15 : Int32))
def M_X9_sign_J65 (σ : Wd) (v1 : Int32) (v2 : Int32) (v4 : Int32) : Option (Int32 × Wd) :=
  if v2 ≠ (42 : Int32) then (M_X9_sign_J75 σ v1 v2 v4) else (M_X9_sign_J75 σ v1 v2 (10 : Int32))
def M_X9_sign_J55 (σ : Wd) (v1 : Int32) (v2 : Int32) (v4 : Int32) : Option (Int32 × Wd) :=
  if v2 ≠ (45 : Int32) then (M_X9_sign_J65 σ v1 v2 v4) else (M_X9_sign_J65 σ v1 v2 (9 : Int32))
def M_X9_sign_J43 (σ : Wd) (v1 : Int32) (v2 : Int32) (t0 : Int32) : Option (Int32 × Wd) :=
  if v2 ≠ (43 : Int32) then (M_X9_sign_J55 σ v1 v2 t0) else (M_X9_sign_J55 σ v1 v2 (8 : Int32))
def M_X9_sign (σ : Wd) (v1 : Int32) (v2 : Int32) (v3 : Int32) : Option (Int32 × Wd) :=
  if v2 ≠ (59 : Int32) then (if v2 ≠ (61 : Int32) then (if v2 ≠ (40 : Int32) then (if v2 ≠ (41 : Int32) then (M_X9_sign_J43 σ v1 v2 (3 : Int32)) else (M_X9_sign_J43 σ v1 v2 (7 : Int32))) else (M_X9_sign_J43 σ v1 v2 (6 : Int32))) else (M_X9_sign_J43 σ v1 v2 (5 : Int32))) else (M_X9_sign_J43 σ v1 v2 (4 : Int32))
def M_X9_cut_L208 (σ : Wd) (v1 : Int32) (v3 : Int32) (v4 : Int32) : Option ((Int32 × Int32) ⊕ (Int32 × Int32)) :=
  bnd1 (M_X9_byteAt σ (v1 + v3)) fun r212 => bnd1 (M_X9_isDigit r212) fun r215 => if r215 = 0 then (some (.inr (v3, v4))) else (if (4 : Int32) ≤ v3 then (lt (v3 + (1 : Int32)) fun v3_244 => some (.inl (v3_244, v4))) else (bnd1 (M_X9_byteAt σ (v1 + v3)) fun r235 => lt ((((10 : Int32) * v4) + r235) - (48 : Int32)) fun v4_242 => lt (v3 + (1 : Int32)) fun v3_244 => some (.inl (v3_244, v4_242))))
def M_X9_cut_J261 (σ : Wd) (v1 : Int32) (v3 : Int32) (v4 : Int32) (t0 : Int32) : Option ((Int32 × Wd) ⊕ ((Wd) ⊕ Wd)) :=
  bnd1 (M_X9_token σ t0 v1 v4 (0 : Int64)) fun s_265 => lt (v1 + v3) fun v1_271 => some (.inl (v1_271, s_265))
def M_X9_cut_L85 (σ : Wd) (v1 : Int32) (v3 : Int32) (v4 : Int64) : Option ((Int32 × Int64) ⊕ (Int32 × Int64)) :=
  bnd1 (M_X9_byteAt σ (v1 + v3)) fun r89 => bnd1 (M_X9_isLetter r89) fun r92 => if r92 = 0 then (some (.inr (v3, v4))) else (if (8 : Int32) ≤ v3 then (lt (v3 + (1 : Int32)) fun v3_118 => some (.inl (v3_118, v4))) else (bnd1 (M_X9_byteAt σ (v1 + v3)) fun r110 => bnd1 (M_X9_appends v4 r110) fun r113 => lt (v3 + (1 : Int32)) fun v3_118 => some (.inl (v3_118, r113))))
def M_X9_cut_J179 (σ : Wd) (v1 : Int32) (v3 : Int32) (v4 : Int64) (v6 : Int32) : Option ((Int32 × Wd) ⊕ ((Wd) ⊕ Wd)) :=
  bnd1 (M_X9_token σ v6 v1 (0 : Int32) v4) fun s_186 => lt (v1 + v3) fun v1_192 => some (.inl (v1_192, s_186))
def M_X9_cut_L146 (σ : Wd) (v1 : Int32) (v3 : Int32) (v4 : Int64) (v6 : Int32) (v7 : Int32) : Option ((Int32 × Int32) ⊕ (Int32)) :=
  if (11 : Int32) ≤ v7 then (some (.inr v6)) else (chk (ib v7 11) (if (lg_cmp (gL σ 7 (ix v7)) v4) ≠ 0 then (lt (v7 + (1 : Int32)) fun v7_173 => some (.inl (v6, v7_173))) else (lt ((20 : Int32) + v7) fun v6_171 => lt (v7 + (1 : Int32)) fun v7_173 => some (.inl (v6_171, v7_173)))))
def M_X9_cut_J135 (σ : Wd) (v1 : Int32) (v3 : Int32) (v4 : Int64) (t0 : Int32) : Option ((Int32 × Wd) ⊕ ((Wd) ⊕ Wd)) :=
  if (8 : Int32) < v3 then (M_X9_cut_J179 σ v1 v3 v4 t0) else (bnd1 (iter (fun s : Int32 × Int32 => M_X9_cut_L146 σ v1 v3 v4 s.1 s.2) FU (t0, (0 : Int32))) (un1 fun x6_146 => (M_X9_cut_J179 σ v1 v3 v4 x6_146)))
def M_X9_cut_L7 (v1 : Int32) (σ : Wd) : Option ((Int32 × Wd) ⊕ ((Wd) ⊕ Wd)) :=
  if (400 : Int32) < (gI σ 0 10) then (some (.inr (.inr σ))) else (bnd1 (M_X9_byteAt σ v1) fun r19 => if v1 < (gI σ 0 4) then (if r19 = (9 : Int32) then (lt (v1 + (1 : Int32)) fun v1_67 => some (.inl (v1_67, σ))) else (if r19 = (10 : Int32) then (lt (v1 + (1 : Int32)) fun v1_67 => some (.inl (v1_67, σ))) else (if r19 = (13 : Int32) then (lt (v1 + (1 : Int32)) fun v1_67 => some (.inl (v1_67, σ))) else (if r19 ≠ (32 : Int32) then (bnd1 (M_X9_isLetter r19) fun r74 => if r74 = 0 then (bnd1 (M_X9_isDigit r19) fun r197 => if r197 = 0 then (bnd1 (M_X9_byteAt σ (v1 + (1 : Int32))) fun r283 => bnd2 (M_X9_sign σ v1 r19 r283) fun r286 s_286 => lt (v1 + r286) fun v1_290 => some (.inl (v1_290, s_286))) else (bnd1 (iter (fun s : Int32 × Int32 => M_X9_cut_L208 σ v1 s.1 s.2) FU ((0 : Int32), (0 : Int32))) (un2 fun x3_208 x4_208 => (if x3_208 ≤ (4 : Int32) then (M_X9_cut_J261 σ v1 x3_208 x4_208 (2 : Int32)) else (M_X9_cut_J261 σ v1 x3_208 x4_208 (3 : Int32)))))) else (bnd1 (iter (fun s : Int32 × Int64 => M_X9_cut_L85 σ v1 s.1 s.2) FU ((0 : Int32), (0 : Int64))) (un2 fun x3_85 x4_85 => (if x3_85 ≤ (8 : Int32) then (M_X9_cut_J135 σ v1 x3_85 x4_85 (1 : Int32)) else (M_X9_cut_J135 σ v1 x3_85 x4_85 (3 : Int32)))))) else (lt (v1 + (1 : Int32)) fun v1_67 => some (.inl (v1_67, σ))))))) else (some (.inr (.inl σ))))
def M_X9_cut (σ : Wd) : Option Wd :=
  lt (uI σ 0 10 (0 : Int32)) fun s_2 => bnd1 (iter (fun s : Int32 × Wd => M_X9_cut_L7 s.1 s.2) FU ((0 : Int32), s_2)) (sx (un1 fun sx_7 => (bnd1 (M_X9_token sx_7 (0 : Int32) (gI sx_7 0 4) (0 : Int32) (0 : Int64)) fun s_39 => some s_39)) (fun q => some q))
def M_X9_is (σ : Wd) (v1 : Int32) : Option Int32 :=
  if (gI σ 0 13) ≠ 0 then (some (0 : Int32)) else (chk (ib (gI σ 0 11) 403) (if (gI σ 3 (ix (gI σ 0 11))) ≠ v1 then (some (0 : Int32)) else (some (1 : Int32))))
def M_X9_fail (σ : Wd) (v1 : Int32) : Option Wd :=
  if (gI σ 0 13) ≤ 0 then (lt (uI σ 0 13 v1) fun s_10 => chk (ib (gI s_10 0 11) 403) (lt (uI s_10 0 14 (gI s_10 4 (ix (gI s_10 0 11)))) fun s_23 => some s_23)) else (some σ)
def M_X9_wrong_J46 (σ : Wd) (v1 : Int32) (v3 : Int32) : Option Wd :=
  lt (uI σ 0 15 v1) fun s_48 => lt (uI s_48 0 16 v3) fun s_53 => some s_53
def M_X9_wrong (σ : Wd) (v1 : Int32) (v2 : Int32) : Option Wd :=
  chk (ib v2 403) (lt (gI σ 4 (ix v2)) fun v3_6 => if 0 < (gI σ 0 13) then (some σ) else (if (gI σ 0 15) = 0 then (M_X9_wrong_J46 σ v1 v3_6) else (if (gI σ 0 16) < v3_6 then (some σ) else (if v3_6 ≠ (gI σ 0 16) then (M_X9_wrong_J46 σ v1 v3_6) else (if v1 < (gI σ 0 15) then (M_X9_wrong_J46 σ v1 v3_6) else (some σ))))))
def M_X9_goesOn (σ : Wd) : Option Wd :=
  if (gI σ 0 11) ≠ (400 : Int32) then (lt (uI σ 0 11 ((gI σ 0 11) + (1 : Int32))) fun s_25 => some s_25) else (bnd1 (M_X9_fail σ (2 : Int32)) fun s_12 => some s_12)
def M_X9_must (σ : Wd) (v1 : Int32) : Option Wd :=
  bnd1 (M_X9_is σ v1) fun r2 => if r2 = 0 then (bnd1 (M_X9_fail σ (1 : Int32)) fun s_17 => some s_17) else (bnd1 (M_X9_goesOn σ) fun s_9 => some s_9)
def M_X9_plain (σ : Wd) (v1 : Int32) : Option Wd :=
  chk (ib v1 2) (lt (uI σ 10 (ix v1) (3 : Int32)) fun s_6 => chk (ib v1 2) (lt (uI s_6 11 (ix v1) (0 : Int32)) fun s_13 => chk (ib v1 2) (lt (uI s_13 12 (ix v1) (0 : Int32)) fun s_20 => chk (ib v1 2) (lt (uI s_20 14 (ix v1) (0 : Int32)) fun s_27 => chk (ib v1 2) (lt (uI s_27 19 (ix v1) (0 : Int32)) fun s_34 => some s_34)))))
def M_X9_bounded_J15 (σ : Wd) (v1 : Int32) : Option (Int32 × Wd) :=
  bnd1 (M_X9_fail σ (1 : Int32)) fun s_17 => some (v1, s_17)
def M_X9_bounded_J51 (σ : Wd) (v3 : Int32) : Option (Int32 × Wd) :=
  bnd1 (M_X9_goesOn σ) fun s_52 => some (v3, s_52)
def M_X9_bounded_J42 (σ : Wd) (v3 : Int32) : Option (Int32 × Wd) :=
  bnd1 (M_X9_wrong σ (5 : Int32) (gI σ 0 11)) fun s_48 => M_X9_bounded_J51 s_48 v3
def M_X9_bounded (σ : Wd) (v1 : Int32) (v2 : Int32) : Option (Int32 × Wd) :=
  if 0 < (gI σ 0 13) then (M_X9_bounded_J15 σ v1) else (bnd1 (M_X9_is σ (2 : Int32)) fun r9 => if r9 ≠ 0 then (chk (ib (gI σ 0 11) 403) (lt (gI σ 5 (ix (gI σ 0 11))) fun v3_31 => if v3_31 < v1 then (M_X9_bounded_J42 σ v3_31) else (if v3_31 ≤ v2 then (M_X9_bounded_J51 σ v3_31) else (M_X9_bounded_J42 σ v3_31)))) else (M_X9_bounded_J15 σ v1))
def M_X9_toldInt (σ : Wd) (v1 : Int32) (v2 : Int32) : Option (Int32 × Wd) :=
  bnd1 (M_X9_goesOn σ) fun s_1 => bnd2 (M_X9_bounded s_1 v1 v2) fun r7 s_7 => bnd1 (M_X9_must s_7 (4 : Int32)) fun s_13 => some (r7, s_13)
def M_X9_roomFor_J10 (σ : Wd) : Option Wd :=
  if (gI σ 0 13) ≠ 0 then (some σ) else (bnd1 (M_X9_goesOn σ) fun s_18 => some s_18)
def M_X9_roomFor (σ : Wd) (v1 : Int32) (v2 : Int32) : Option Wd :=
  if v1 ≠ v2 then (M_X9_roomFor_J10 σ) else (bnd1 (M_X9_fail σ (2 : Int32)) fun s_7 => M_X9_roomFor_J10 s_7)
def M_X9_named_L12 (v1 : Int32) (v2 : Int32) (σ : Wd) : Option ((Int32 × Wd) ⊕ (Wd)) :=
  if (gI σ 0 20) ≤ v2 then (some (.inr σ)) else (if (gI σ 0 13) ≠ 0 then (some (.inr σ)) else (chk (ib v2 12) (chk (ib v1 403) (if (lg_cmp (gL σ 8 (ix v2)) (gL σ 6 (ix v1))) ≠ 0 then (lt (v2 + (1 : Int32)) fun v2_49 => some (.inl (v2_49, σ))) else (bnd1 (M_X9_wrong σ (3 : Int32) v1) fun s_46 => lt (v2 + (1 : Int32)) fun v2_49 => some (.inl (v2_49, s_46)))))))
def M_X9_named (σ : Wd) : Option (Int32 × Wd) :=
  lt (gI σ 0 11) fun v1_4 => bnd1 (M_X9_must σ (1 : Int32)) fun s_7 => bnd1 (iter (fun s : Int32 × Wd => M_X9_named_L12 v1_4 s.1 s.2) FU ((0 : Int32), s_7)) (un1 fun sx_12 => (some (v1_4, sx_12)))
def M_X9_keepsName (σ : Wd) (v1 : Int32) (v2 : Int32) : Option Wd :=
  chk (ib v1 403) (chk (ib (gI σ 0 20) 12) (lt (uL σ 8 (ix (gI σ 0 20)) (gL σ 6 (ix v1))) fun s_14 => chk (ib (gI s_14 0 20) 12) (lt (uI s_14 9 (ix (gI s_14 0 20)) v2) fun s_24 => lt (uI s_24 0 20 ((gI s_24 0 20) + (1 : Int32))) fun s_32 => some s_32)))
def M_X9_tellCell (σ : Wd) : Option Wd :=
  bnd2 (M_X9_named σ) fun r1 s_1 => chk (ib (gI s_1 0 19) 2) (bnd2 (M_X9_bounded s_1 (0 : Int32) (9999 : Int32)) fun r31 s_31 => chk (ib (((6 : Int32) * (gI s_1 0 19)) + (gI s_1 12 (ix (gI s_1 0 19)))) 12) (lt (uI s_31 13 (ix (((6 : Int32) * (gI s_1 0 19)) + (gI s_1 12 (ix (gI s_1 0 19))))) r31) fun s_34 => bnd1 (M_X9_must s_34 (4 : Int32)) fun s_37 => if (gI s_37 0 13) ≤ 0 then (chk (ib (gI s_37 0 19) 2) (bnd1 (M_X9_keepsName s_37 r1 (gI s_37 12 (ix (gI s_37 0 19)))) fun s_59 => chk (ib (gI s_59 0 19) 2) (chk (ib (gI s_59 0 19) 2) (lt (uI s_59 12 (ix (gI s_59 0 19)) ((gI s_59 12 (ix (gI s_59 0 19))) + (1 : Int32))) fun s_74 => some s_74)))) else (some s_37)))
def M_X9_emit (σ : Wd) (v1 : Int32) (v2 : Int32) : Option Wd :=
  chk (ib (gI σ 0 33) 840) (lt (uI σ 20 (ix (gI σ 0 33)) v1) fun s_9 => chk (ib (gI s_9 0 33) 840) (lt (uI s_9 21 (ix (gI s_9 0 33)) v2) fun s_19 => lt (uI s_19 0 33 ((gI s_19 0 33) + (1 : Int32))) fun s_27 => some s_27))
def M_X9_known_L21 (σ : Wd) (v1 : Int32) (v2 : Int32) : Option ((Int32) ⊕ ((Unit) ⊕ (Int32 × Wd))) :=
  if (gI σ 0 20) ≤ v2 then (some (.inr (.inl ()))) else (chk (ib v2 12) (chk (ib v1 403) (if (lg_cmp (gL σ 8 (ix v2)) (gL σ 6 (ix v1))) ≠ 0 then (lt (v2 + (1 : Int32)) fun v2_63 => some (.inl v2_63)) else (chk (ib v2 12) (if (10 : Int32) ≤ (gI σ 9 (ix v2)) then (lt (v2 + (1 : Int32)) fun v2_63 => some (.inl v2_63)) else (chk (ib v2 12) (some (.inr (.inr ((gI σ 9 (ix v2)), σ))))))))))
def M_X9_known (σ : Wd) : Option (Int32 × Wd) :=
  lt (gI σ 0 11) fun v1_4 => bnd1 (M_X9_must σ (1 : Int32)) fun s_7 => if (gI s_7 0 13) ≤ 0 then (bnd1 (iter (fun s : Int32 => M_X9_known_L21 s_7 v1_4 s) FU (0 : Int32)) (sx (un0 (bnd1 (M_X9_wrong s_7 (4 : Int32) v1_4) fun s_72 => some ((0 : Int32), s_72))) (fun q => some q))) else (some ((0 : Int32), s_7))
def M_X9_unit_J91 (σ : Wd) : Option Wd :=
  bnd1 (M_X9_is σ (1 : Int32)) fun r93 => if r93 = 0 then (bnd1 (M_X9_fail σ (1 : Int32)) fun s_113 => some s_113) else (bnd2 (M_X9_known σ) fun r102 s_102 => bnd1 (M_X9_emit s_102 (1 : Int32) r102) fun s_105 => some s_105)
def M_X9_unit (σ : Wd) : Option Wd :=
  bnd1 (M_X9_is σ (2 : Int32)) fun r2 => if r2 = 0 then (if (gI σ 0 13) ≠ 0 then (M_X9_unit_J91 σ) else (chk (ib (gI σ 0 11) 403) (if (gI σ 3 (ix (gI σ 0 11))) < (28 : Int32) then (M_X9_unit_J91 σ) else (chk (ib (gI σ 0 11) 403) (if (30 : Int32) < (gI σ 3 (ix (gI σ 0 11))) then (M_X9_unit_J91 σ) else (chk (ib (gI σ 0 11) 403) (bnd1 (M_X9_emit σ (1 : Int32) (((6 : Int32) + (gI σ 3 (ix (gI σ 0 11)))) - (28 : Int32))) fun s_81 => bnd1 (M_X9_goesOn s_81) fun s_85 => some s_85))))))) else (chk (ib (gI σ 0 11) 403) (bnd1 (M_X9_emit σ (0 : Int32) (gI σ 5 (ix (gI σ 0 11)))) fun s_19 => bnd1 (M_X9_goesOn s_19) fun s_23 => some s_23))
def M_X9_comesOut_J84 (σ : Wd) (v1 : Int32) (t0 : Int32) : Option ((Wd) ⊕ ((Wd) ⊕ Wd)) :=
  bnd1 (M_X9_emit σ t0 (0 : Int32)) fun s_85 => some (.inl s_85)
def M_X9_comesOut_J42 (σ : Wd) (v1 : Int32) (v2 : Int32) : Option ((Wd) ⊕ ((Wd) ⊕ Wd)) :=
  lt (uI σ 0 37 ((gI σ 0 37) - (1 : Int32))) fun s_49 => if v2 ≠ (8 : Int32) then (if v2 ≠ (9 : Int32) then (if v2 ≠ (10 : Int32) then (M_X9_comesOut_J84 s_49 v1 (5 : Int32)) else (M_X9_comesOut_J84 s_49 v1 (4 : Int32))) else (M_X9_comesOut_J84 s_49 v1 (3 : Int32))) else (M_X9_comesOut_J84 s_49 v1 (2 : Int32))
def M_X9_comesOut_L0 (v1 : Int32) (σ : Wd) : Option ((Wd) ⊕ ((Wd) ⊕ Wd)) :=
  if (gI σ 0 37) ≤ 0 then (some (.inr (.inl σ))) else (chk (ib ((gI σ 0 37) - (1 : Int32)) 64) (lt (gI σ 22 (ix ((gI σ 0 37) - (1 : Int32)))) fun v2_18 => if v2_18 = (6 : Int32) then (some (.inr (.inr σ))) else (if v1 = 0 then (M_X9_comesOut_J42 σ v1 v2_18) else (if v2_18 = (8 : Int32) then (some (.inr (.inr σ))) else (if v2_18 ≠ (9 : Int32) then (M_X9_comesOut_J42 σ v1 v2_18) else (some (.inr (.inr σ))))))))
def M_X9_comesOut (σ : Wd) (v1 : Int32) : Option Wd :=
  bnd1 (iter (fun s : Wd => M_X9_comesOut_L0 v1 s) FU σ) (sx (un1 fun sx_0 => (some sx_0)) (fun q => some q))
def M_X9_expression_J46 (σ : Wd) (v1 : Int32) : Option ((Wd) ⊕ (Wd)) :=
  lt (uI σ 0 12 ((gI σ 0 12) + (1 : Int32))) fun s_53 => bnd1 (M_X9_goesOn s_53) fun s_57 => chk (ib (gI s_57 0 37) 64) (lt (uI s_57 22 (ix (gI s_57 0 37)) (6 : Int32)) fun s_70 => lt (uI s_70 0 37 ((gI s_70 0 37) + (1 : Int32))) fun s_78 => some (.inl s_78))
def M_X9_expression_L23 (v1 : Int32) (σ : Wd) : Option ((Wd) ⊕ (Wd)) :=
  bnd1 (M_X9_is σ (6 : Int32)) fun r26 => if r26 = 0 then (some (.inr σ)) else (if (gI σ 0 12) ≠ (6 : Int32) then (M_X9_expression_J46 σ v1) else (bnd1 (M_X9_fail σ (2 : Int32)) fun s_43 => M_X9_expression_J46 s_43 v1))
def M_X9_expression_J234 (σ : Wd) (v1 : Int32) (v2 : Int32) (t0 : Int32) : Option ((Int32 × Wd) ⊕ ((Wd) ⊕ Wd)) :=
  bnd1 (M_X9_comesOut σ t0) fun s_234 => chk (ib (gI s_234 0 11) 403) (chk (ib (gI s_234 0 37) 64) (lt (uI s_234 22 (ix (gI s_234 0 37)) (gI s_234 3 (ix (gI s_234 0 11)))) fun s_254 => lt (uI s_254 0 37 ((gI s_254 0 37) + (1 : Int32))) fun s_262 => bnd1 (M_X9_goesOn s_262) fun s_266 => some (.inl (v2, s_266))))
def M_X9_expression_J229 (σ : Wd) (v1 : Int32) (v2 : Int32) : Option ((Int32 × Wd) ⊕ ((Wd) ⊕ Wd)) :=
  M_X9_expression_J234 σ v1 v2 (1 : Int32)
def M_X9_expression_J186 (σ : Wd) (v1 : Int32) (t0 : Int32) : Option ((Int32 × Wd) ⊕ ((Wd) ⊕ Wd)) :=
  if t0 ≠ 0 then (bnd1 (M_X9_is σ (10 : Int32)) fun r214 => if r214 ≠ 0 then (M_X9_expression_J229 σ v1 t0) else (bnd1 (M_X9_is σ (15 : Int32)) fun r223 => if r223 = 0 then (M_X9_expression_J234 σ v1 t0 (0 : Int32)) else (M_X9_expression_J229 σ v1 t0))) else (some (.inr (.inl σ)))
def M_X9_expression_J181 (σ : Wd) (v1 : Int32) : Option ((Int32 × Wd) ⊕ ((Wd) ⊕ Wd)) :=
  M_X9_expression_J186 σ v1 (1 : Int32)
def M_X9_expression_J145 (σ : Wd) (v1 : Int32) : Option ((Int32 × Wd) ⊕ ((Wd) ⊕ Wd)) :=
  bnd1 (M_X9_is σ (8 : Int32)) fun r148 => if r148 ≠ 0 then (M_X9_expression_J181 σ v1) else (bnd1 (M_X9_is σ (9 : Int32)) fun r157 => if r157 ≠ 0 then (M_X9_expression_J181 σ v1) else (bnd1 (M_X9_is σ (10 : Int32)) fun r166 => if r166 ≠ 0 then (M_X9_expression_J181 σ v1) else (bnd1 (M_X9_is σ (15 : Int32)) fun r175 => if r175 = 0 then (M_X9_expression_J186 σ v1 (0 : Int32)) else (M_X9_expression_J181 σ v1))))
def M_X9_expression_L96 (v1 : Int32) (σ : Wd) : Option ((Wd) ⊕ (Wd)) :=
  bnd1 (M_X9_is σ (7 : Int32)) fun r99 => if r99 = 0 then (some (.inr σ)) else (if (gI σ 0 12) ≤ v1 then (some (.inr σ)) else (bnd1 (M_X9_comesOut σ (0 : Int32)) fun s_115 => lt (uI s_115 0 37 ((gI s_115 0 37) - (1 : Int32))) fun s_125 => lt (uI s_125 0 12 ((gI s_125 0 12) - (1 : Int32))) fun s_135 => bnd1 (M_X9_goesOn s_135) fun s_139 => some (.inl s_139)))
def M_X9_expression_L12 (v1 : Int32) (v2 : Int32) (σ : Wd) : Option ((Int32 × Wd) ⊕ ((Wd) ⊕ Wd)) :=
  if v2 = 0 then (some (.inr (.inr σ))) else (if (gI σ 0 13) ≠ 0 then (some (.inr (.inr σ))) else (bnd1 (iter (fun s : Wd => M_X9_expression_L23 v1 s) FU σ) (un1 fun sx_23 => (bnd1 (M_X9_unit sx_23) fun s_85 => if (gI s_85 0 13) ≤ 0 then (bnd1 (iter (fun s : Wd => M_X9_expression_L96 v1 s) FU s_85) (un1 fun sx_96 => (M_X9_expression_J145 sx_96 v1))) else (some (.inr (.inr s_85)))))))
def M_X9_expression_J204 (σ : Wd) : Option Wd :=
  bnd1 (M_X9_comesOut σ (0 : Int32)) fun s_206 => some s_206
def M_X9_expression (σ : Wd) : Option Wd :=
  lt (uI σ 0 37 (0 : Int32)) fun s_2 => lt (gI s_2 0 12) fun v1_9 => bnd1 (iter (fun s : Int32 × Wd => M_X9_expression_L12 v1_9 s.1 s.2) FU ((1 : Int32), s_2)) (sx (un1 fun sx_12 => (if (gI sx_12 0 12) ≤ v1_9 then (M_X9_expression_J204 sx_12) else (bnd1 (M_X9_fail sx_12 (1 : Int32)) fun s_201 => M_X9_expression_J204 s_201))) (fun q => some q))
def M_X9_termTold (σ : Wd) (v1 : Int32) : Option Wd :=
  chk (ib v1 60) (lt (uI σ 18 (ix v1) (gI σ 0 33)) fun s_9 => if (gI s_9 0 13) ≠ 0 then (some s_9) else (bnd1 (M_X9_expression s_9) fun s_18 => some s_18))
def M_X9_tellForm_J199 (σ : Wd) (v1 : Int32) (v2 : Int32) : Option Wd :=
  chk (ib (((5 : Int32) * v1) + (4 : Int32)) 60) (lt (uI σ 18 (ix (((5 : Int32) * v1) + (4 : Int32))) (gI σ 0 33)) fun s_212 => bnd1 (M_X9_must s_212 (4 : Int32)) fun s_215 => if (gI s_215 0 13) ≤ 0 then (chk (ib (gI s_215 0 19) 2) (bnd1 (M_X9_keepsName s_215 v2 ((10 : Int32) + (gI s_215 14 (ix (gI s_215 0 19))))) fun s_240 => chk (ib (gI s_240 0 19) 2) (chk (ib (gI s_240 0 19) 2) (lt (uI s_240 14 (ix (gI s_240 0 19)) ((gI s_240 14 (ix (gI s_240 0 19))) + (1 : Int32))) fun s_255 => some s_255)))) else (some s_215))
def M_X9_tellForm_J189 (σ : Wd) (v1 : Int32) (v2 : Int32) (t0 : Int32) (t1 : Int32) : Option Wd :=
  chk (ib t1 12) (lt (uI σ 17 (ix t1) t0) fun s_189 => bnd1 (M_X9_termTold s_189 (((5 : Int32) * v1) + (3 : Int32))) fun s_196 => M_X9_tellForm_J199 s_196 v1 v2)
def M_X9_tellForm_J125 (σ : Wd) (v1 : Int32) (v2 : Int32) (t0 : Int32) (t1 : Int32) : Option Wd :=
  chk (ib t1 12) (lt (uI σ 16 (ix t1) t0) fun s_125 => bnd1 (M_X9_termTold s_125 (((5 : Int32) * v1) + (2 : Int32))) fun s_132 => chk (ib v1 12) (lt (uI s_132 17 (ix v1) (-1 : Int32)) fun s_141 => chk (ib (((5 : Int32) * v1) + (3 : Int32)) 60) (lt (uI s_141 18 (ix (((5 : Int32) * v1) + (3 : Int32))) (gI s_141 0 33)) fun s_155 => bnd1 (M_X9_is s_155 (26 : Int32)) fun r159 => if r159 = 0 then (M_X9_tellForm_J199 s_155 v1 v2) else (bnd1 (M_X9_goesOn s_155) fun s_166 => if (gI s_166 0 13) ≤ 0 then (bnd2 (M_X9_known s_166) fun r186 s_186 => M_X9_tellForm_J189 s_186 v1 v2 r186 v1) else (M_X9_tellForm_J189 s_166 v1 v2 (0 : Int32) v1)))))
def M_X9_tellForm_J90 (σ : Wd) (v1 : Int32) (v2 : Int32) : Option Wd :=
  bnd1 (M_X9_termTold σ (((5 : Int32) * v1) + (1 : Int32))) fun s_96 => bnd1 (M_X9_must s_96 (25 : Int32)) fun s_102 => if (gI s_102 0 13) ≤ 0 then (bnd2 (M_X9_known s_102) fun r122 s_122 => M_X9_tellForm_J125 s_122 v1 v2 r122 v1) else (M_X9_tellForm_J125 s_102 v1 v2 (0 : Int32) v1)
def M_X9_tellForm_J79 (σ : Wd) (v1 : Int32) (v2 : Int32) : Option Wd :=
  if (gI σ 0 13) ≠ 0 then (M_X9_tellForm_J90 σ v1 v2) else (bnd1 (M_X9_goesOn σ) fun s_87 => M_X9_tellForm_J90 s_87 v1 v2)
def M_X9_tellForm_J56 (σ : Wd) (v1 : Int32) (v2 : Int32) (t0 : Int32) (t1 : Int32) : Option Wd :=
  chk (ib t1 12) (lt (uI σ 15 (ix t1) t0) fun s_56 => bnd1 (M_X9_is s_56 (13 : Int32)) fun r60 => if r60 ≠ 0 then (M_X9_tellForm_J79 s_56 v1 v2) else (bnd1 (M_X9_is s_56 (5 : Int32)) fun r68 => if r68 ≠ 0 then (M_X9_tellForm_J79 s_56 v1 v2) else (bnd1 (M_X9_fail s_56 (1 : Int32)) fun s_76 => M_X9_tellForm_J79 s_76 v1 v2)))
def M_X9_tellForm (σ : Wd) : Option Wd :=
  chk (ib (gI σ 0 19) 2) (lt (((6 : Int32) * (gI σ 0 19)) + (gI σ 14 (ix (gI σ 0 19)))) fun v1_17 => bnd2 (M_X9_named σ) fun r19 s_19 => bnd1 (M_X9_must s_19 (24 : Int32)) fun s_26 => bnd1 (M_X9_termTold s_26 ((5 : Int32) * v1_17)) fun s_33 => bnd1 (M_X9_is s_33 (13 : Int32)) fun r44 => if r44 = 0 then (M_X9_tellForm_J56 s_33 v1_17 r19 (5 : Int32) v1_17) else (M_X9_tellForm_J56 s_33 v1_17 r19 (13 : Int32) v1_17))
def M_X9_tellOne (σ : Wd) : Option Wd :=
  chk (ib (gI σ 0 11) 403) (if (gI σ 3 (ix (gI σ 0 11))) = (20 : Int32) then (bnd2 (M_X9_toldInt σ (1 : Int32) (5 : Int32)) fun r67 s_67 => chk (ib (gI σ 0 19) 2) (lt (uI s_67 10 (ix (gI σ 0 19)) r67) fun s_70 => some s_70)) else (if (gI σ 3 (ix (gI σ 0 11))) = (21 : Int32) then (bnd2 (M_X9_toldInt σ (0 : Int32) (4 : Int32)) fun r85 s_85 => chk (ib (gI σ 0 19) 2) (lt (uI s_85 11 (ix (gI σ 0 19)) r85) fun s_88 => some s_88)) else (if (gI σ 3 (ix (gI σ 0 11))) = (22 : Int32) then (chk (ib (gI σ 0 19) 2) (bnd1 (M_X9_roomFor σ (gI σ 12 (ix (gI σ 0 19))) (6 : Int32)) fun s_104 => if (gI s_104 0 13) ≠ 0 then (some s_104) else (bnd1 (M_X9_tellCell s_104) fun s_115 => some s_115))) else (if (gI σ 3 (ix (gI σ 0 11))) = (23 : Int32) then (chk (ib (gI σ 0 19) 2) (bnd1 (M_X9_roomFor σ (gI σ 14 (ix (gI σ 0 19))) (6 : Int32)) fun s_133 => if (gI s_133 0 13) ≠ 0 then (some s_133) else (bnd1 (M_X9_tellForm s_133) fun s_144 => some s_144))) else (if (gI σ 3 (ix (gI σ 0 11))) = (27 : Int32) then (bnd2 (M_X9_toldInt σ (0 : Int32) (9999 : Int32)) fun r163 s_163 => chk (ib (gI σ 0 19) 2) (lt (uI s_163 19 (ix (gI σ 0 19)) r163) fun s_166 => some s_166)) else (bnd1 (M_X9_fail σ (1 : Int32)) fun s_172 => some s_172))))))
def M_X9_begins_L2 (v1 : Int32) (σ : Wd) : Option ((Int32 × Wd) ⊕ (Wd)) :=
  if (770 : Int32) ≤ v1 then (some (.inr σ)) else (chk (ib v1 770) (lt (uI σ 26 (ix v1) (0 : Int32)) fun s_15 => lt (v1 + (1 : Int32)) fun v1_16 => some (.inl (v1_16, s_15))))
def M_X9_begins (σ : Wd) : Option Wd :=
  bnd1 (iter (fun s : Int32 × Wd => M_X9_begins_L2 s.1 s.2) FU ((0 : Int32), σ)) (un1 fun sx_2 => (chk (ib (gI sx_2 0 18) 2) (chk (ib (2 : Int32) 770) (lt (uI sx_2 26 (ix (2 : Int32)) (gI sx_2 11 (ix (gI sx_2 0 18)))) fun s_36 => chk (ib (gI s_36 0 18) 2) (lt (uI s_36 0 43 (gI s_36 19 (ix (gI s_36 0 18)))) fun s_47 => some s_47)))))
def M_X9_keepsRow_L2 (v1 : Int32) (σ : Wd) : Option ((Int32 × Wd) ⊕ (Wd)) :=
  if (770 : Int32) ≤ v1 then (some (.inr σ)) else (chk (ib v1 770) (chk (ib v1 770) (lt (uI σ 25 (ix v1) (gI σ 26 (ix v1))) fun s_20 => lt (v1 + (1 : Int32)) fun v1_21 => some (.inl (v1_21, s_20)))))
def M_X9_keepsRow (σ : Wd) : Option Wd :=
  bnd1 (iter (fun s : Int32 × Wd => M_X9_keepsRow_L2 s.1 s.2) FU ((0 : Int32), σ)) (un1 fun sx_2 => (some sx_2))
def M_X9_read_L10 (v1 : Int32) (σ : Wd) : Option ((Int32 × Wd) ⊕ (Wd)) :=
  if (gI σ 0 4) ≤ v1 then (some (.inr σ)) else (chk (ib v1 2000) (chk (ib v1 2000) (lt (uI σ 2 (ix v1) (vp_nar .byte (gI σ 1 (ix v1)))) fun s_29 => lt (v1 + (1 : Int32)) fun v1_30 => some (.inl (v1_30, s_29)))))
def M_X9_read_L240 (v1 : Int32) (σ : Wd) : Option ((Int32 × Wd) ⊕ (Wd)) :=
  if (3 : Int32) ≤ v1 then (some (.inr σ)) else (chk (ib v1 3) (lt (uI σ 35 (ix v1) (vp_nar .boolean (0 : Int32))) fun s_251 => lt (v1 + (1 : Int32)) fun v1_252 => some (.inl (v1_252, s_251))))
def M_X9_read_J190 (σ : Wd) (t0 : Int32) : Option (Int32 × Wd) :=
  lt (uI σ 0 17 t0) fun s_190 => if (gI s_190 0 13) ≤ 0 then (if (gI s_190 0 15) ≤ 0 then (lt (uI s_190 0 18 (gI s_190 0 19)) fun s_222 => bnd1 (M_X9_begins s_222) fun s_226 => bnd1 (M_X9_keepsRow s_226) fun s_230 => lt (uI s_230 0 51 (0 : Int32)) fun s_235 => bnd1 (iter (fun s : Int32 × Wd => M_X9_read_L240 s.1 s.2) FU ((0 : Int32), s_235)) (un1 fun sx_240 => (some ((0 : Int32), sx_240)))) else (some ((gI s_190 0 15), s_190))) else (some ((gI s_190 0 13), s_190))
def M_X9_read_J160 (σ : Wd) : Option (Int32 × Wd) :=
  if (gI σ 0 13) ≤ 0 then (if (gI σ 0 15) ≤ 0 then (M_X9_read_J190 σ (-1 : Int32)) else (M_X9_read_J190 σ (gI σ 0 16))) else (M_X9_read_J190 σ (gI σ 0 14))
def M_X9_read_J122 (σ : Wd) : Option (Int32 × Wd) :=
  if (gI σ 0 13) ≠ 0 then (M_X9_read_J160 σ) else (chk (ib (gI σ 0 19) 2) (chk (ib (gI σ 0 19) 2) (if (gI σ 11 (ix (gI σ 0 19))) < (gI σ 10 (ix (gI σ 0 19))) then (M_X9_read_J160 σ) else (bnd1 (M_X9_wrong σ (6 : Int32) (gI σ 0 11)) fun s_157 => M_X9_read_J160 s_157))))
def M_X9_read_L100 (σ : Wd) : Option ((Wd) ⊕ (Wd)) :=
  if (gI σ 0 13) ≠ 0 then (some (.inr σ)) else (bnd1 (M_X9_is σ (0 : Int32)) fun r109 => if r109 ≠ 0 then (some (.inr σ)) else (bnd1 (M_X9_tellOne σ) fun s_116 => some (.inl s_116)))
def M_X9_read (σ : Wd) : Option (Int32 × Wd) :=
  lt (uI σ 0 4 (gI σ 0 2)) fun s_5 => bnd1 (iter (fun s : Int32 × Wd => M_X9_read_L10 s.1 s.2) FU ((0 : Int32), s_5)) (un1 fun sx_10 => (lt (uI sx_10 0 2 (0 : Int32)) fun s_38 => bnd1 (M_X9_cut s_38) fun s_42 => lt (uI s_42 0 11 (0 : Int32)) fun s_47 => lt (uI s_47 0 12 (0 : Int32)) fun s_52 => lt (uI s_52 0 13 (0 : Int32)) fun s_57 => lt (uI s_57 0 15 (0 : Int32)) fun s_62 => lt (uI s_62 0 19 ((1 : Int32) - (gI s_62 0 18))) fun s_72 => lt (uI s_72 0 20 (0 : Int32)) fun s_77 => bnd1 (M_X9_plain s_77 (gI s_77 0 19)) fun s_85 => lt (uI s_85 0 33 ((420 : Int32) * (gI s_85 0 19))) fun s_97 => bnd1 (iter (fun s : Wd => M_X9_read_L100 s) FU s_97) (un1 fun sx_100 => (M_X9_read_J122 sx_100))))
def M_X9_place (σ : Wd) : Option Int32 :=
  some (gI σ 0 17)
def M_X9_termOf_J158 (σ : Wd) (v2 : Int32) (v3 : Int32) (v4 : Int32) (t0 : Int32) (t1 : Int32) : Option ((Int32 × Int32 × Wd) ⊕ ((Wd) ⊕ (Int32 × Wd))) :=
  chk (ib t1 400) (lt (uI σ 24 (ix t1) t0) fun s_158 => lt (v4 + (1 : Int32)) fun v4_159 => some (.inl (v3, v4_159, s_158)))
def M_X9_termOf_J104 (σ : Wd) (v2 : Int32) (v3 : Int32) (v4 : Int32) (v5 : Int32) (v6 : Int32) (v7 : Int32) : Option ((Int32 × Int32 × Wd) ⊕ ((Wd) ⊕ (Int32 × Wd))) :=
  if v5 ≠ (2 : Int32) then (if v5 ≠ (3 : Int32) then (if v5 ≠ (4 : Int32) then (chk (¬ v7 = 0) (M_X9_termOf_J158 σ v2 v3 v4 (v6 / v7) (v3 - (1 : Int32)))) else (M_X9_termOf_J158 σ v2 v3 v4 (v6 * v7) (v3 - (1 : Int32)))) else (M_X9_termOf_J158 σ v2 v3 v4 (v6 - v7) (v3 - (1 : Int32)))) else (M_X9_termOf_J158 σ v2 v3 v4 (v6 + v7) (v3 - (1 : Int32)))
def M_X9_termOf_J58 (σ : Wd) (v2 : Int32) (v3 : Int32) (v4 : Int32) (t0 : Int32) (t1 : Int32) : Option ((Int32 × Int32 × Wd) ⊕ ((Wd) ⊕ (Int32 × Wd))) :=
  chk (ib t1 400) (lt (uI σ 24 (ix t1) t0) fun s_58 => lt (v3 + (1 : Int32)) fun v3_59 => lt (v4 + (1 : Int32)) fun v4_159 => some (.inl (v3_59, v4_159, s_58)))
def M_X9_termOf_L5 (v2 : Int32) (v3 : Int32) (v4 : Int32) (σ : Wd) : Option ((Int32 × Int32 × Wd) ⊕ ((Wd) ⊕ (Int32 × Wd))) :=
  if v2 ≤ v4 then (chk (ib (0 : Int32) 400) (some (.inr (.inr ((gI σ 24 (ix (0 : Int32))), σ))))) else (chk (ib v4 840) (lt (gI σ 20 (ix v4)) fun v5_18 => if (2 : Int32) ≤ v5_18 then (lt (v3 + (-1 : Int32)) fun v3_65 => chk (ib (v3_65 - (1 : Int32)) 400) (lt (gI σ 24 (ix (v3_65 - (1 : Int32)))) fun v6_76 => chk (ib v3_65 400) (lt (gI σ 24 (ix v3_65)) fun v7_84 => if v5_18 ≠ (5 : Int32) then (M_X9_termOf_J104 σ v2 v3_65 v4 v5_18 v6_76 v7_84) else (if v7_84 ≠ 0 then (M_X9_termOf_J104 σ v2 v3_65 v4 v5_18 v6_76 v7_84) else (some (.inr (.inl σ))))))) else (if v5_18 ≠ 0 then (chk (ib v4 840) (chk (ib (gI σ 21 (ix v4)) 9) (M_X9_termOf_J58 σ v2 v3 v4 (gI σ 23 (ix (gI σ 21 (ix v4)))) v3))) else (chk (ib v4 840) (M_X9_termOf_J58 σ v2 v3 v4 (gI σ 21 (ix v4)) v3)))))
def M_X9_termOf (σ : Wd) (v1 : Int32) (v2 : Int32) : Option (Int32 × Wd) :=
  bnd1 (iter (fun s : Int32 × Int32 × Wd => M_X9_termOf_L5 v2 s.1 s.2.1 s.2.2) FU ((0 : Int32), v1, σ)) (sx (un1 fun sx_5 => (lt (uI sx_5 0 40 (1 : Int32)) fun s_99 => some ((0 : Int32), s_99))) (fun q => some q))
def M_X9_in (v0 : Int32) (v1 : Int32) (v2 : Int32) : Option Int32 :=
  if v0 < v1 then (some (0 : Int32)) else (if v2 < v0 then (some (0 : Int32)) else (some (1 : Int32)))
def M_X9_isCopy (σ : Wd) (v1 : Int32) : Option Int32 :=
  chk (ib (gI σ 0 18) 2) (bnd1 (M_X9_in v1 (0 : Int32) ((gI σ 10 (ix (gI σ 0 18))) - (1 : Int32))) fun r13 => chk (zb r13) (some r13))
def M_X9_isCell (σ : Wd) (v1 : Int32) : Option Int32 :=
  chk (ib (gI σ 0 18) 2) (bnd1 (M_X9_in v1 (0 : Int32) ((gI σ 12 (ix (gI σ 0 18))) - (1 : Int32))) fun r13 => chk (zb r13) (some r13))
def M_X9_isSession (v0 : Int32) : Option Int32 :=
  bnd1 (M_X9_in v0 (0 : Int32) (3 : Int32)) fun r3 => chk (zb r3) (some r3)
def M_X9_isWrite (σ : Wd) (v1 : Int32) : Option Int32 :=
  chk (ib (0 : Int32) 770) (bnd1 (M_X9_in v1 (0 : Int32) ((gI σ 25 (ix (0 : Int32))) - (1 : Int32))) fun r10 => chk (zb r10) (some r10))
def M_X9_copiesNow_L2 (v1 : Int32) (σ : Wd) : Option ((Int32 × Wd) ⊕ (Wd)) :=
  if (770 : Int32) ≤ v1 then (some (.inr σ)) else (chk (ib v1 770) (chk (ib v1 770) (lt (uI σ 26 (ix v1) (gI σ 25 (ix v1))) fun s_20 => lt (v1 + (1 : Int32)) fun v1_21 => some (.inl (v1_21, s_20)))))
def M_X9_copiesNow (σ : Wd) : Option Wd :=
  bnd1 (iter (fun s : Int32 × Wd => M_X9_copiesNow_L2 s.1 s.2) FU ((0 : Int32), σ)) (un1 fun sx_2 => (chk (ib (gI sx_2 0 18) 2) (lt (uI sx_2 0 43 (gI sx_2 19 (ix (gI sx_2 0 18)))) fun s_37 => some s_37)))
def M_X9_mixed (v0 : Int32) (v1 : Int32) : Option Int32 :=
  lt (((v0 ^^^ v1) * (1103515245 : Int32)) + (12345 : Int32)) fun v2_11 => some (v2_11 ^^^ ((v2_11.toUInt32 >>> ((15 : Int32).toUInt32 &&& Int32.toUInt32 31)).toInt32))
def M_X9_lotOf (σ : Wd) (v1 : Int32) (v2 : Int32) : Option Int32 :=
  bnd1 (M_X9_mixed (gI σ 0 43) (223 : Int32)) fun r7 => bnd1 (M_X9_mixed r7 v1) fun r11 => chk (¬ v2 = 0) (some (((r11.toUInt32 >>> ((1 : Int32).toUInt32 &&& Int32.toUInt32 31)).toInt32) - ((r11.toUInt32 >>> ((1 : Int32).toUInt32 &&& Int32.toUInt32 31)).toInt32) / v2 * v2))
def M_X9_doesHave (σ : Wd) (v1 : Int32) (v2 : Int32) : Option Int32 :=
  chk (ib (((470 : Int32) + ((60 : Int32) * v1)) + v2) 770) (if (gI σ 26 (ix (((470 : Int32) + ((60 : Int32) * v1)) + v2))) ≠ (1 : Int32) then (some (0 : Int32)) else (some (1 : Int32)))
def M_X9_ofWrite (σ : Wd) (v1 : Int32) (v2 : Int32) : Option Int32 :=
  chk (ib (((110 : Int32) + ((5 : Int32) * v1)) + v2) 770) (some (gI σ 26 (ix (((110 : Int32) + ((5 : Int32) * v1)) + v2))))
def M_X9_ofCopy (σ : Wd) (v1 : Int32) (v2 : Int32) : Option Int32 :=
  chk (ib (((15 : Int32) + ((6 : Int32) * v1)) + v2) 770) (some (gI σ 26 (ix (((15 : Int32) + ((6 : Int32) * v1)) + v2))))
def M_X9_adds (σ : Wd) (v1 : Int32) (v2 : Int32) (v3 : Int32) : Option Wd :=
  chk (ib (((15 : Int32) + ((6 : Int32) * v1)) + v2) 770) (chk (ib (((15 : Int32) + ((6 : Int32) * v1)) + v2) 770) (lt (uI σ 26 (ix (((15 : Int32) + ((6 : Int32) * v1)) + v2)) ((gI σ 26 (ix (((15 : Int32) + ((6 : Int32) * v1)) + v2))) + v3)) fun s_17 => some s_17))
def M_X9_vectorOf_L5 (σ : Wd) (v1 : Int32) (v2 : Int32) (v3 : Int32) (v4 : Int32) : Option ((Int32 × Int32) ⊕ (Int32)) :=
  chk (ib (0 : Int32) 770) (if (gI σ 26 (ix (0 : Int32))) ≤ v4 then (some (.inr v3)) else (bnd1 (M_X9_doesHave σ v1 v4) fun r20 => if r20 = 0 then (lt (v4 + (1 : Int32)) fun v4_56 => some (.inl (v3, v4_56))) else (bnd1 (M_X9_ofWrite σ v4 (2 : Int32)) fun r30 => if r30 ≠ v2 then (lt (v4 + (1 : Int32)) fun v4_56 => some (.inl (v3, v4_56))) else (bnd1 (M_X9_ofWrite σ v4 (3 : Int32)) fun r41 => if r41 ≤ v3 then (lt (v4 + (1 : Int32)) fun v4_56 => some (.inl (v3, v4_56))) else (bnd1 (M_X9_ofWrite σ v4 (3 : Int32)) fun r52 => lt (v4 + (1 : Int32)) fun v4_56 => some (.inl (r52, v4_56)))))))
def M_X9_vectorOf (σ : Wd) (v1 : Int32) (v2 : Int32) : Option Int32 :=
  bnd1 (iter (fun s : Int32 × Int32 => M_X9_vectorOf_L5 σ v1 v2 s.1 s.2) FU ((0 : Int32), (0 : Int32))) (un1 fun x3_5 => (some x3_5))
def M_X9_clockOf_L4 (σ : Wd) (v1 : Int32) (v2 : Int32) (v3 : Int32) : Option ((Int32 × Int32) ⊕ (Int32)) :=
  chk (ib (0 : Int32) 770) (if (gI σ 26 (ix (0 : Int32))) ≤ v3 then (some (.inr v2)) else (bnd1 (M_X9_doesHave σ v1 v3) fun r17 => if r17 = 0 then (lt (v3 + (1 : Int32)) fun v3_40 => some (.inl (v2, v3_40))) else (bnd1 (M_X9_ofWrite σ v3 (3 : Int32)) fun r26 => if r26 ≤ v2 then (lt (v3 + (1 : Int32)) fun v3_40 => some (.inl (v2, v3_40))) else (bnd1 (M_X9_ofWrite σ v3 (3 : Int32)) fun r36 => lt (v3 + (1 : Int32)) fun v3_40 => some (.inl (r36, v3_40))))))
def M_X9_clockOf (σ : Wd) (v1 : Int32) : Option Int32 :=
  bnd1 (iter (fun s : Int32 × Int32 => M_X9_clockOf_L4 σ v1 s.1 s.2) FU ((0 : Int32), (0 : Int32))) (un1 fun x2_4 => (some x2_4))
def M_X9_isAhead (σ : Wd) (v1 : Int32) (v2 : Int32) : Option Int32 :=
  bnd1 (M_X9_ofWrite σ v1 (3 : Int32)) fun r3 => bnd1 (M_X9_ofWrite σ v2 (3 : Int32)) fun r10 => if r3 < r10 then (some (1 : Int32)) else (if r3 ≠ r10 then (some (0 : Int32)) else (bnd1 (M_X9_ofWrite σ v1 (2 : Int32)) fun r30 => bnd1 (M_X9_ofWrite σ v2 (2 : Int32)) fun r36 => if r36 ≤ r30 then (some (0 : Int32)) else (some (1 : Int32))))
def M_X9_isKnown (σ : Wd) (v1 : Int32) (v2 : Int32) : Option Int32 :=
  bnd1 (M_X9_ofWrite σ v2 (4 : Int32)) fun r3 => if r3 < 0 then (some (0 : Int32)) else (bnd1 (M_X9_ofWrite σ v2 (4 : Int32)) fun r12 => bnd1 (M_X9_ofCopy σ v1 (0 : Int32)) fun r18 => if r18 ≤ r12 then (some (0 : Int32)) else (some (1 : Int32)))
def M_X9_fillsLog_L14 (v1 : Int32) (v2 : Int32) (v3 : Int32) (σ : Wd) : Option ((Int32 × Wd) ⊕ (Wd)) :=
  if v2 ≤ v3 then (some (.inr σ)) else (chk (ib ((410 : Int32) + v3) 770) (chk (ib (gI σ 0 45) 60) (lt (uI σ 27 (ix (gI σ 0 45)) (gI σ 26 (ix ((410 : Int32) + v3)))) fun s_37 => lt (uI s_37 0 45 ((gI s_37 0 45) + (1 : Int32))) fun s_45 => lt (v3 + (1 : Int32)) fun v3_48 => some (.inl (v3_48, s_45)))))
def M_X9_fillsLog_J138 (σ : Wd) (v1 : Int32) (v2 : Int32) (v3 : Int32) (v4 : Int32) : Option ((Int32 × Wd) ⊕ (Wd)) :=
  chk (ib v4 60) (lt (uI σ 27 (ix v4) v3) fun s_145 => lt (uI s_145 0 45 ((gI s_145 0 45) + (1 : Int32))) fun s_153 => lt (v3 + (1 : Int32)) fun v3_156 => some (.inl (v3_156, s_153)))
def M_X9_fillsLog_L93 (v1 : Int32) (v2 : Int32) (v3 : Int32) (v4 : Int32) (σ : Wd) : Option ((Int32 × Wd) ⊕ (Int32 × Wd)) :=
  if v4 ≤ v2 then (some (.inr (v4, σ))) else (chk (ib (v4 - (1 : Int32)) 60) (bnd1 (M_X9_isAhead σ v3 (gI σ 27 (ix (v4 - (1 : Int32))))) fun r110 => if r110 = 0 then (some (.inr (v4, σ))) else (chk (ib (v4 - (1 : Int32)) 60) (chk (ib v4 60) (lt (uI σ 27 (ix v4) (gI σ 27 (ix (v4 - (1 : Int32))))) fun s_131 => lt (v4 + (-1 : Int32)) fun v4_132 => some (.inl (v4_132, s_131)))))))
def M_X9_fillsLog_L56 (v1 : Int32) (v2 : Int32) (v3 : Int32) (σ : Wd) : Option ((Int32 × Wd) ⊕ (Wd)) :=
  chk (ib (0 : Int32) 770) (if (gI σ 26 (ix (0 : Int32))) ≤ v3 then (some (.inr σ)) else (bnd1 (M_X9_doesHave σ v1 v3) fun r69 => if r69 = 0 then (lt (v3 + (1 : Int32)) fun v3_156 => some (.inl (v3_156, σ))) else (bnd1 (M_X9_isKnown σ v1 v3) fun r78 => if r78 = 0 then (lt (gI σ 0 45) fun v4_91 => bnd1 (iter (fun s : Int32 × Wd => M_X9_fillsLog_L93 v1 v2 v3 s.1 s.2) FU (v4_91, σ)) (un2 fun x4_93 sx_93 => (M_X9_fillsLog_J138 sx_93 v1 v2 v3 x4_93))) else (lt (v3 + (1 : Int32)) fun v3_156 => some (.inl (v3_156, σ))))))
def M_X9_fillsLog (σ : Wd) (v1 : Int32) : Option Wd :=
  bnd1 (M_X9_ofCopy σ v1 (0 : Int32)) fun r3 => lt (uI σ 0 45 (0 : Int32)) fun s_9 => bnd1 (iter (fun s : Int32 × Wd => M_X9_fillsLog_L14 v1 r3 s.1 s.2) FU ((0 : Int32), s_9)) (un1 fun sx_14 => (bnd1 (iter (fun s : Int32 × Wd => M_X9_fillsLog_L56 v1 r3 s.1 s.2) FU ((0 : Int32), sx_14)) (un1 fun sx_56 => (some sx_56))))
def M_X9_keepsLog_L10 (v1 : Int32) (σ : Wd) : Option ((Int32 × Wd) ⊕ (Wd)) :=
  if (gI σ 0 45) ≤ v1 then (some (.inr σ)) else (chk (ib v1 60) (chk (ib v1 60) (lt (uI σ 28 (ix v1) (gI σ 27 (ix v1))) fun s_29 => lt (v1 + (1 : Int32)) fun v1_30 => some (.inl (v1_30, s_29)))))
def M_X9_keepsLog (σ : Wd) : Option Wd :=
  lt (uI σ 0 47 (gI σ 0 45)) fun s_5 => bnd1 (iter (fun s : Int32 × Wd => M_X9_keepsLog_L10 s.1 s.2) FU ((0 : Int32), s_5)) (un1 fun sx_10 => (some sx_10))
def M_X9_alikeLogs_L2 (σ : Wd) (v1 : Int32) : Option ((Int32) ⊕ (Int32)) :=
  if (gI σ 0 45) ≤ v1 then (some (.inr v1)) else (if (gI σ 0 47) ≤ v1 then (some (.inr v1)) else (chk (ib v1 60) (chk (ib v1 60) (if (gI σ 27 (ix v1)) ≠ (gI σ 28 (ix v1)) then (some (.inr v1)) else (lt (v1 + (1 : Int32)) fun v1_33 => some (.inl v1_33))))))
def M_X9_alikeLogs (σ : Wd) : Option Int32 :=
  bnd1 (iter (fun s : Int32 => M_X9_alikeLogs_L2 σ s) FU (0 : Int32)) (un1 fun x1_2 => (some x1_2))
def M_X9_firstCells_L2 (v1 : Int32) (σ : Wd) : Option ((Int32 × Wd) ⊕ (Wd)) :=
  if (6 : Int32) ≤ v1 then (some (.inr σ)) else (chk (ib (((6 : Int32) * (gI σ 0 18)) + v1) 12) (chk (ib v1 6) (lt (uI σ 29 (ix v1) (gI σ 13 (ix (((6 : Int32) * (gI σ 0 18)) + v1)))) fun s_27 => lt (v1 + (1 : Int32)) fun v1_28 => some (.inl (v1_28, s_27)))))
def M_X9_firstCells (σ : Wd) : Option Wd :=
  bnd1 (iter (fun s : Int32 × Wd => M_X9_firstCells_L2 s.1 s.2) FU ((0 : Int32), σ)) (un1 fun sx_2 => (some sx_2))
def M_X9_reckoned_L22 (v1 : Int32) (v3 : Int32) (v4 : Int32) (σ : Wd) : Option ((Int32 × Wd) ⊕ (Wd)) :=
  if (6 : Int32) ≤ v4 then (some (.inr σ)) else (chk (ib v4 6) (chk (ib v4 9) (lt (uI σ 23 (ix v4) (gI σ 29 (ix v4))) fun s_42 => lt (v4 + (1 : Int32)) fun v4_43 => some (.inl (v4_43, s_42)))))
def M_X9_reckoned (σ : Wd) (v1 : Int32) (v2 : Int32) : Option (Int32 × Wd) :=
  bnd1 (M_X9_ofWrite σ v1 (0 : Int32)) fun r11 => lt ((((30 : Int32) * (gI σ 0 18)) + ((5 : Int32) * r11)) + v2) fun v3_18 => bnd1 (iter (fun s : Int32 × Wd => M_X9_reckoned_L22 v1 v3_18 s.1 s.2) FU ((0 : Int32), σ)) (un1 fun sx_22 => (bnd1 (M_X9_ofWrite sx_22 v1 (1 : Int32)) fun r58 => chk (ib (6 : Int32) 9) (lt (uI sx_22 23 (ix (6 : Int32)) r58) fun s_61 => bnd1 (M_X9_ofWrite s_61 v1 (3 : Int32)) fun r71 => chk (ib (7 : Int32) 9) (lt (uI s_61 23 (ix (7 : Int32)) r71) fun s_74 => bnd1 (M_X9_ofWrite s_74 v1 (2 : Int32)) fun r84 => chk (ib (8 : Int32) 9) (lt (uI s_74 23 (ix (8 : Int32)) r84) fun s_87 => chk (ib v3_18 60) (chk (ib (v3_18 + (1 : Int32)) 60) (bnd2 (M_X9_termOf s_87 (gI s_87 18 (ix v3_18)) (gI s_87 18 (ix (v3_18 + (1 : Int32))))) fun r103 s_103 => some (r103, s_103))))))))
def M_X9_doneOne_J159 (σ : Wd) (v2 : Int32) (v6 : Int32) (v7 : Int32) (t0 : Int32) (t1 : Int32) : Option (Int32 × Wd) :=
  chk (ib t1 60) (lt (uI σ 31 (ix t1) t0) fun s_159 => chk (ib v2 60) (chk (ib (gI s_159 31 (ix v2)) 6) (lt (uI s_159 29 (ix (gI s_159 31 (ix v2))) v7) fun s_172 => if v6 = 0 then (some ((1 : Int32), s_172)) else (some ((0 : Int32), s_172)))))
def M_X9_doneOne_J120 (σ : Wd) (v2 : Int32) (v3 : Int32) (v6 : Int32) (t0 : Int32) (t1 : Int32) : Option (Int32 × Wd) :=
  bnd2 (M_X9_reckoned σ t1 t0) fun r120 s_120 => if (gI s_120 0 40) = 0 then (if v6 = 0 then (chk (ib v3 12) (M_X9_doneOne_J159 s_120 v2 v6 r120 (gI s_120 17 (ix v3)) v2)) else (chk (ib v3 12) (M_X9_doneOne_J159 s_120 v2 v6 r120 (gI s_120 16 (ix v3)) v2))) else (some ((3 : Int32), s_120))
def M_X9_doneOne_J108 (σ : Wd) (v1 : Int32) (v2 : Int32) (v3 : Int32) (v6 : Int32) : Option (Int32 × Wd) :=
  if v6 = 0 then (M_X9_doneOne_J120 σ v2 v3 v6 (3 : Int32) v1) else (M_X9_doneOne_J120 σ v2 v3 v6 (2 : Int32) v1)
def M_X9_doneOne_J90 (σ : Wd) (v1 : Int32) (v2 : Int32) (v3 : Int32) (t0 : Int32) : Option (Int32 × Wd) :=
  if t0 ≠ 0 then (M_X9_doneOne_J108 σ v1 v2 v3 t0) else (chk (ib v3 12) (if 0 ≤ (gI σ 17 (ix v3)) then (M_X9_doneOne_J108 σ v1 v2 v3 t0) else (some ((2 : Int32), σ))))
def M_X9_doneOne (σ : Wd) (v1 : Int32) (v2 : Int32) : Option (Int32 × Wd) :=
  bnd1 (M_X9_ofWrite σ v1 (0 : Int32)) fun r10 => lt (((6 : Int32) * (gI σ 0 18)) + r10) fun v3_14 => lt (uI σ 0 40 (0 : Int32)) fun s_17 => chk (ib v2 60) (lt (uI s_17 31 (ix v2) (-1 : Int32)) fun s_26 => bnd2 (M_X9_reckoned s_26 v1 (0 : Int32)) fun r30 s_30 => bnd2 (M_X9_reckoned s_30 v1 (1 : Int32)) fun r38 s_38 => if (gI s_38 0 40) = 0 then (chk (ib v3_14 12) (if (gI s_38 15 (ix v3_14)) ≠ (13 : Int32) then (if r30 ≠ r38 then (M_X9_doneOne_J90 s_38 v1 v2 v3_14 (0 : Int32)) else (M_X9_doneOne_J90 s_38 v1 v2 v3_14 (1 : Int32))) else (if r38 ≤ r30 then (M_X9_doneOne_J90 s_38 v1 v2 v3_14 (0 : Int32)) else (M_X9_doneOne_J90 s_38 v1 v2 v3_14 (1 : Int32))))) else (some ((3 : Int32), s_38)))
def M_X9_doesLog_L6 (v1 : Int32) (v2 : Int32) (σ : Wd) : Option ((Int32 × Wd) ⊕ (Wd)) :=
  if v1 ≤ v2 then (some (.inr σ)) else (chk (ib v2 60) (bnd2 (M_X9_doneOne σ (gI σ 27 (ix v2)) v2) fun r24 s_24 => chk (ib v2 60) (lt (uI s_24 30 (ix v2) r24) fun s_27 => lt (v2 + (1 : Int32)) fun v2_28 => some (.inl (v2_28, s_27)))))
def M_X9_doesLog (σ : Wd) (v1 : Int32) : Option Wd :=
  bnd1 (M_X9_firstCells σ) fun s_1 => bnd1 (iter (fun s : Int32 × Wd => M_X9_doesLog_L6 v1 s.1 s.2) FU ((0 : Int32), s_1)) (un1 fun sx_6 => (some sx_6))
def M_X9_doesAll (σ : Wd) (v1 : Int32) : Option Wd :=
  bnd1 (M_X9_fillsLog σ v1) fun s_2 => bnd1 (M_X9_doesLog s_2 (gI s_2 0 45)) fun s_10 => some s_10
def M_X9_outcomes_L5 (σ : Wd) (v1 : Int32) (v2 : Int32) (v3 : Int32) (v4 : Int32) : Option ((Int32 × Int32) ⊕ (Int32)) :=
  if (gI σ 0 45) ≤ v4 then (some (.inr v3)) else (chk (ib v4 60) (bnd1 (M_X9_in (gI σ 30 (ix v4)) v1 v2) fun r23 => if r23 = 0 then (lt (v4 + (1 : Int32)) fun v4_32 => some (.inl (v3, v4_32))) else (lt (v3 + (1 : Int32)) fun v3_29 => lt (v4 + (1 : Int32)) fun v4_32 => some (.inl (v3_29, v4_32)))))
def M_X9_outcomes (σ : Wd) (v1 : Int32) (v2 : Int32) : Option Int32 :=
  bnd1 (iter (fun s : Int32 × Int32 => M_X9_outcomes_L5 σ v1 v2 s.1 s.2) FU ((0 : Int32), (0 : Int32))) (un1 fun x3_5 => (some x3_5))
def M_X9_opens (σ : Wd) (v1 : Int32) : Option Wd :=
  bnd1 (M_X9_adds σ v1 (3 : Int32) (1 : Int32)) fun s_4 => some s_4
def M_X9_shuts_L10 (v1 : Int32) (v2 : Int32) (σ : Wd) : Option ((Int32 × Wd) ⊕ (Wd)) :=
  if v2 ≤ 0 then (some (.inr σ)) else (chk (ib (((5 : Int32) + v2) - (1 : Int32)) 770) (chk (ib ((5 : Int32) + v2) 770) (lt (uI σ 26 (ix ((5 : Int32) + v2)) (gI σ 26 (ix (((5 : Int32) + v2) - (1 : Int32))))) fun s_31 => lt (v2 + (-1 : Int32)) fun v2_32 => some (.inl (v2_32, s_31)))))
def M_X9_shuts (σ : Wd) (v1 : Int32) : Option Wd :=
  bnd1 (M_X9_adds σ v1 (4 : Int32) (1 : Int32)) fun s_4 => bnd1 (iter (fun s : Int32 × Wd => M_X9_shuts_L10 v1 s.1 s.2) FU ((7 : Int32), s_4)) (un1 fun sx_10 => (chk (ib (5 : Int32) 770) (lt (uI sx_10 26 (ix (5 : Int32)) v1) fun s_44 => chk (ib (4 : Int32) 770) (if (8 : Int32) ≤ (gI s_44 26 (ix (4 : Int32))) then (some s_44) else (chk (ib (4 : Int32) 770) (chk (ib (4 : Int32) 770) (lt (uI s_44 26 (ix (4 : Int32)) ((gI s_44 26 (ix (4 : Int32))) + (1 : Int32))) fun s_65 => some s_65)))))))
def M_X9_gives_L12 (v1 : Int32) (v2 : Int32) (σ : Wd) : Option ((Int32 × Wd) ⊕ (Wd)) :=
  if (gI σ 0 45) ≤ v2 then (some (.inr σ)) else (chk (ib (1 : Int32) 770) (chk (ib v2 60) (chk (ib ((410 : Int32) + (gI σ 26 (ix (1 : Int32)))) 770) (lt (uI σ 26 (ix ((410 : Int32) + (gI σ 26 (ix (1 : Int32))))) (gI σ 27 (ix v2))) fun s_40 => chk (ib v2 60) (chk (ib (1 : Int32) 770) (chk (ib (((110 : Int32) + ((5 : Int32) * (gI s_40 27 (ix v2)))) + (4 : Int32)) 770) (lt (uI s_40 26 (ix (((110 : Int32) + ((5 : Int32) * (gI s_40 27 (ix v2)))) + (4 : Int32))) (gI s_40 26 (ix (1 : Int32)))) fun s_64 => chk (ib (1 : Int32) 770) (chk (ib (1 : Int32) 770) (lt (uI s_64 26 (ix (1 : Int32)) ((gI s_64 26 (ix (1 : Int32))) + (1 : Int32))) fun s_74 => lt (v2 + (1 : Int32)) fun v2_75 => some (.inl (v2_75, s_74)))))))))))
def M_X9_gives (σ : Wd) (v1 : Int32) : Option Wd :=
  bnd1 (M_X9_fillsLog σ v1) fun s_2 => bnd1 (M_X9_ofCopy s_2 v1 (0 : Int32)) fun r8 => bnd1 (iter (fun s : Int32 × Wd => M_X9_gives_L12 v1 s.1 s.2) FU (r8, s_2)) (un1 fun sx_12 => (chk (ib (1 : Int32) 770) (chk (ib (((15 : Int32) + ((6 : Int32) * v1)) + (0 : Int32)) 770) (lt (uI sx_12 26 (ix (((15 : Int32) + ((6 : Int32) * v1)) + (0 : Int32))) (gI sx_12 26 (ix (1 : Int32)))) fun s_100 => some s_100))))
def M_X9_brings_L5 (v1 : Int32) (v2 : Int32) (v3 : Int32) (v4 : Int32) (σ : Wd) : Option ((Int32 × Int32 × Wd) ⊕ (Int32 × Wd)) :=
  chk (ib (0 : Int32) 770) (if (gI σ 26 (ix (0 : Int32))) ≤ v4 then (some (.inr (v3, σ))) else (bnd1 (M_X9_doesHave σ v1 v4) fun r20 => if r20 = 0 then (lt (v4 + (1 : Int32)) fun v4_58 => some (.inl (v3, v4_58, σ))) else (bnd1 (M_X9_doesHave σ v2 v4) fun r30 => if r30 = 0 then (chk (ib (((470 : Int32) + ((60 : Int32) * v2)) + v4) 770) (lt (uI σ 26 (ix (((470 : Int32) + ((60 : Int32) * v2)) + v4)) (1 : Int32)) fun s_55 => lt (v4 + (1 : Int32)) fun v4_58 => some (.inl ((1 : Int32), v4_58, s_55)))) else (lt (v4 + (1 : Int32)) fun v4_58 => some (.inl (v3, v4_58, σ))))))
def M_X9_brings (σ : Wd) (v1 : Int32) (v2 : Int32) : Option (Int32 × Wd) :=
  bnd1 (iter (fun s : Int32 × Int32 × Wd => M_X9_brings_L5 v1 v2 s.1 s.2.1 s.2.2) FU ((0 : Int32), (0 : Int32), σ)) (un2 fun x3_5 sx_5 => (chk (zb x3_5) (some (x3_5, sx_5))))
def M_X9_meets_J80 (σ : Wd) (v1 : Int32) (v2 : Int32) : Option (Int32 × Wd) :=
  bnd1 (M_X9_fillsLog σ v2) fun s_82 => bnd1 (M_X9_alikeLogs s_82) fun r86 => bnd1 (M_X9_adds s_82 v2 (1 : Int32) ((gI s_82 0 47) - r86)) fun s_101 => bnd1 (M_X9_adds s_101 v2 (2 : Int32) ((gI s_101 0 45) - r86)) fun s_114 => bnd1 (M_X9_shuts s_114 v1) fun s_119 => bnd1 (M_X9_shuts s_119 v2) fun s_124 => some (((gI s_124 0 47) - r86), s_124)
def M_X9_meets_J61 (σ : Wd) (v1 : Int32) (v2 : Int32) (v3 : Int32) : Option (Int32 × Wd) :=
  if v3 = 0 then (M_X9_meets_J80 σ v1 v2) else (chk (ib (2 : Int32) 770) (if v2 ≠ (gI σ 26 (ix (2 : Int32))) then (M_X9_meets_J80 σ v1 v2) else (bnd1 (M_X9_gives σ v2) fun s_77 => M_X9_meets_J80 s_77 v1 v2)))
def M_X9_meets (σ : Wd) (v1 : Int32) (v2 : Int32) : Option (Int32 × Wd) :=
  bnd1 (M_X9_opens σ v2) fun s_2 => bnd1 (M_X9_opens s_2 v1) fun s_7 => bnd1 (M_X9_fillsLog s_7 v2) fun s_12 => bnd1 (M_X9_keepsLog s_12) fun s_16 => bnd2 (M_X9_brings s_16 v1 v2) fun r22 s_22 => bnd1 (M_X9_ofCopy s_22 v1 (0 : Int32)) fun r29 => bnd1 (M_X9_ofCopy s_22 v2 (0 : Int32)) fun r35 => if r29 ≤ r35 then (M_X9_meets_J61 s_22 v1 v2 r22) else (bnd1 (M_X9_ofCopy s_22 v1 (0 : Int32)) fun r57 => chk (ib (((15 : Int32) + ((6 : Int32) * v2)) + (0 : Int32)) 770) (lt (uI s_22 26 (ix (((15 : Int32) + ((6 : Int32) * v2)) + (0 : Int32))) r57) fun s_60 => M_X9_meets_J61 s_60 v1 v2 r22))
def M_X9_meetsByChance (σ : Wd) : Option Wd :=
  chk (ib (3 : Int32) 770) (lt (gI σ 26 (ix (3 : Int32))) fun v1_6 => chk (ib (3 : Int32) 770) (chk (ib (3 : Int32) 770) (lt (uI σ 26 (ix (3 : Int32)) ((gI σ 26 (ix (3 : Int32))) + (1 : Int32))) fun s_16 => chk (ib (gI s_16 0 18) 2) (lt (gI s_16 10 (ix (gI s_16 0 18))) fun v2_26 => if v2_26 ≠ (1 : Int32) then (bnd1 (M_X9_lotOf s_16 ((2 : Int32) * v1_6) v2_26) fun r38 => bnd1 (M_X9_lotOf s_16 (((2 : Int32) * v1_6) + (1 : Int32)) (v2_26 - (1 : Int32))) fun r54 => chk (¬ v2_26 = 0) (lt (((r38 + (1 : Int32)) + r54) - ((r38 + (1 : Int32)) + r54) / v2_26 * v2_26) fun v4_60 => bnd2 (M_X9_meets s_16 r38 v4_60) fun r66 s_66 => some s_66)) else (some s_16)))))
def M_X9_makes_J143 (σ : Wd) (v2 : Int32) : Option Wd :=
  chk (ib (2 : Int32) 770) (if v2 ≠ (gI σ 26 (ix (2 : Int32))) then (some σ) else (bnd1 (M_X9_gives σ v2) fun s_155 => some s_155))
def M_X9_makes (σ : Wd) (v1 : Int32) (v2 : Int32) (v3 : Int32) (v4 : Int32) : Option Wd :=
  chk (ib (0 : Int32) 770) (lt (gI σ 26 (ix (0 : Int32))) fun v5_6 => bnd1 (M_X9_clockOf σ v2) fun r10 => lt (r10 + (1 : Int32)) fun v6_15 => chk (ib (0 : Int32) 770) (chk (ib (0 : Int32) 770) (lt (uI σ 26 (ix (0 : Int32)) ((gI σ 26 (ix (0 : Int32))) + (1 : Int32))) fun s_26 => chk (ib ((110 : Int32) + ((5 : Int32) * v5_6)) 770) (lt (uI s_26 26 (ix ((110 : Int32) + ((5 : Int32) * v5_6))) v3) fun s_39 => chk (ib (((110 : Int32) + ((5 : Int32) * v5_6)) + (1 : Int32)) 770) (lt (uI s_39 26 (ix (((110 : Int32) + ((5 : Int32) * v5_6)) + (1 : Int32))) v4) fun s_55 => chk (ib (((110 : Int32) + ((5 : Int32) * v5_6)) + (2 : Int32)) 770) (lt (uI s_55 26 (ix (((110 : Int32) + ((5 : Int32) * v5_6)) + (2 : Int32))) v2) fun s_70 => chk (ib (((110 : Int32) + ((5 : Int32) * v5_6)) + (3 : Int32)) 770) (lt (uI s_70 26 (ix (((110 : Int32) + ((5 : Int32) * v5_6)) + (3 : Int32))) v6_15) fun s_86 => chk (ib (((110 : Int32) + ((5 : Int32) * v5_6)) + (4 : Int32)) 770) (lt (uI s_86 26 (ix (((110 : Int32) + ((5 : Int32) * v5_6)) + (4 : Int32))) (-2 : Int32)) fun s_102 => chk (ib (((470 : Int32) + ((60 : Int32) * v2)) + v5_6) 770) (lt (uI s_102 26 (ix (((470 : Int32) + ((60 : Int32) * v2)) + v5_6)) (1 : Int32)) fun s_119 => if v1 < 0 then (M_X9_makes_J143 s_119 v2) else (chk (ib ((((50 : Int32) + ((14 : Int32) * v1)) + (8 : Int32)) + v2) 770) (lt (uI s_119 26 (ix ((((50 : Int32) + ((14 : Int32) * v1)) + (8 : Int32)) + v2)) v6_15) fun s_142 => M_X9_makes_J143 s_142 v2)))))))))))
def M_X9_isBehind_L2 (σ : Wd) (v1 : Int32) (v2 : Int32) (v3 : Int32) : Option ((Int32) ⊕ ((Unit) ⊕ Int32)) :=
  chk (ib (gI σ 0 18) 2) (if (gI σ 10 (ix (gI σ 0 18))) ≤ v3 then (some (.inr (.inl ()))) else (bnd1 (M_X9_vectorOf σ v1 v3) fun r18 => chk (ib (v2 + v3) 770) (if (gI σ 26 (ix (v2 + v3))) ≤ r18 then (lt (v3 + (1 : Int32)) fun v3_34 => some (.inl v3_34)) else (some (.inr (.inr (1 : Int32)))))))
def M_X9_isBehind (σ : Wd) (v1 : Int32) (v2 : Int32) : Option Int32 :=
  bnd1 (iter (fun s : Int32 => M_X9_isBehind_L2 σ v1 v2 s) FU (0 : Int32)) (sx (un0 (some (0 : Int32))) (fun q => some q))
def M_X9_mayAsk_J38 (σ : Wd) (v2 : Int32) (v3 : Int32) (v4 : Int32) : Option Int32 :=
  chk (¬ (2 : Int32) = 0) (chk (¬ (2 : Int32) = 0) (if ((v4 / (2 : Int32)) - (v4 / (2 : Int32)) / (2 : Int32) * (2 : Int32)) ≠ (1 : Int32) then (some (1 : Int32)) else (bnd1 (M_X9_isBehind σ v2 (v3 + (3 : Int32))) fun r53 => if r53 ≠ 0 then (some (0 : Int32)) else (some (1 : Int32)))))
def M_X9_mayAsk (σ : Wd) (v1 : Int32) (v2 : Int32) : Option Int32 :=
  lt ((50 : Int32) + ((14 : Int32) * v1)) fun v3_7 => chk (ib (v3_7 + (0 : Int32)) 770) (lt (gI σ 26 (ix (v3_7 + (0 : Int32)))) fun v4_16 => chk (¬ (2 : Int32) = 0) (if (v4_16 - v4_16 / (2 : Int32) * (2 : Int32)) ≠ (1 : Int32) then (M_X9_mayAsk_J38 σ v2 v3_7 v4_16) else (bnd1 (M_X9_isBehind σ v2 (v3_7 + (8 : Int32))) fun r32 => if r32 ≠ 0 then (some (0 : Int32)) else (M_X9_mayAsk_J38 σ v2 v3_7 v4_16))))
def M_X9_mayMake_J39 (σ : Wd) (v2 : Int32) (v3 : Int32) (v4 : Int32) : Option Int32 :=
  chk (¬ (8 : Int32) = 0) (if (v4 / (8 : Int32)) ≠ (1 : Int32) then (some (1 : Int32)) else (bnd1 (M_X9_isBehind σ v2 (v3 + (8 : Int32))) fun r54 => if r54 ≠ 0 then (some (0 : Int32)) else (some (1 : Int32))))
def M_X9_mayMake (σ : Wd) (v1 : Int32) (v2 : Int32) : Option Int32 :=
  lt ((50 : Int32) + ((14 : Int32) * v1)) fun v3_7 => chk (ib (v3_7 + (0 : Int32)) 770) (lt (gI σ 26 (ix (v3_7 + (0 : Int32)))) fun v4_16 => chk (¬ (4 : Int32) = 0) (chk (¬ (2 : Int32) = 0) (if ((v4_16 / (4 : Int32)) - (v4_16 / (4 : Int32)) / (2 : Int32) * (2 : Int32)) ≠ (1 : Int32) then (M_X9_mayMake_J39 σ v2 v3_7 v4_16) else (bnd1 (M_X9_isBehind σ v2 (v3_7 + (3 : Int32))) fun r33 => if r33 ≠ 0 then (some (0 : Int32)) else (M_X9_mayMake_J39 σ v2 v3_7 v4_16)))))
def M_X9_records_L52 (v1 : Int32) (σ : Wd) : Option ((Int32 × Wd) ⊕ (Wd)) :=
  if (770 : Int32) ≤ v1 then (some (.inr σ)) else (chk (ib v1 770) (chk (ib (((770 : Int32) * (gI σ 0 51)) + v1) 30800) (lt (uI σ 32 (ix (((770 : Int32) * (gI σ 0 51)) + v1)) (gI σ 25 (ix v1))) fun s_79 => lt (v1 + (1 : Int32)) fun v1_80 => some (.inl (v1_80, s_79)))))
def M_X9_records_J50 (σ : Wd) : Option Wd :=
  bnd1 (iter (fun s : Int32 × Wd => M_X9_records_L52 s.1 s.2) FU ((0 : Int32), σ)) (un1 fun sx_52 => (lt (uI sx_52 0 51 ((gI sx_52 0 51) + (1 : Int32))) fun s_93 => bnd1 (M_X9_keepsRow s_93) fun s_97 => some s_97))
def M_X9_records_L11 (v1 : Int32) (σ : Wd) : Option ((Int32 × Wd) ⊕ (Wd)) :=
  if (30030 : Int32) ≤ v1 then (some (.inr σ)) else (chk (ib (v1 + (770 : Int32)) 30800) (chk (ib v1 30800) (lt (uI σ 32 (ix v1) (gI σ 32 (ix (v1 + (770 : Int32))))) fun s_33 => lt (v1 + (1 : Int32)) fun v1_34 => some (.inl (v1_34, s_33)))))
def M_X9_records (σ : Wd) : Option Wd :=
  if (gI σ 0 51) ≠ (40 : Int32) then (M_X9_records_J50 σ) else (bnd1 (iter (fun s : Int32 × Wd => M_X9_records_L11 s.1 s.2) FU ((0 : Int32), σ)) (un1 fun sx_11 => (lt (uI sx_11 0 51 ((gI sx_11 0 51) - (1 : Int32))) fun s_47 => M_X9_records_J50 s_47)))
def M_X9_refused (σ : Wd) (v1 : Int32) : Option (Int32 × Wd) :=
  chk (ib (((50 : Int32) + ((14 : Int32) * v1)) + (1 : Int32)) 770) (chk (ib (((50 : Int32) + ((14 : Int32) * v1)) + (1 : Int32)) 770) (lt (uI σ 26 (ix (((50 : Int32) + ((14 : Int32) * v1)) + (1 : Int32))) ((gI σ 26 (ix (((50 : Int32) + ((14 : Int32) * v1)) + (1 : Int32)))) + (1 : Int32))) fun s_17 => some ((-2 : Int32), s_17)))
def M_X9_made_J19 (σ : Wd) (v1 : Int32) (v2 : Int32) (v3 : Int32) (v4 : Int32) : Option (Int32 × Wd) :=
  chk (ib (0 : Int32) 770) (if (gI σ 26 (ix (0 : Int32))) ≠ (60 : Int32) then (bnd1 (M_X9_makes σ v1 v2 v3 v4) fun s_38 => chk (ib (0 : Int32) 770) (some (((gI s_38 26 (ix (0 : Int32))) - (1 : Int32)), s_38))) else (some ((-1 : Int32), σ)))
def M_X9_made (σ : Wd) (v1 : Int32) (v2 : Int32) (v3 : Int32) (v4 : Int32) : Option (Int32 × Wd) :=
  if v1 < 0 then (M_X9_made_J19 σ v1 v2 v3 v4) else (bnd1 (M_X9_mayMake σ v1 v2) fun r7 => if r7 ≠ 0 then (M_X9_made_J19 σ v1 v2 v3 v4) else (bnd2 (M_X9_refused σ v1) fun r15 s_15 => some (r15, s_15)))
def M_X9_make_J12 (σ : Wd) (v1 : Int32) (v2 : Int32) (v3 : Int32) (v4 : Int32) : Option (Int32 × Wd) :=
  bnd1 (M_X9_isCopy σ v2) fun r14 => if r14 = 0 then (some ((-1 : Int32), σ)) else (chk (ib (gI σ 0 18) 2) (bnd1 (M_X9_in v3 (0 : Int32) ((gI σ 14 (ix (gI σ 0 18))) - (1 : Int32))) fun r33 => if r33 ≠ 0 then (bnd1 (M_X9_copiesNow σ) fun s_42 => bnd1 (M_X9_opens s_42 v2) fun s_47 => bnd2 (M_X9_made s_47 v1 v2 v3 v4) fun r56 s_56 => bnd1 (M_X9_shuts s_56 v2) fun s_63 => bnd1 (M_X9_records s_63) fun s_67 => some (r56, s_67)) else (some ((-1 : Int32), σ))))
def M_X9_make (σ : Wd) (v1 : Int32) (v2 : Int32) (v3 : Int32) (v4 : Int32) : Option (Int32 × Wd) :=
  if v1 = (-1 : Int32) then (M_X9_make_J12 σ v1 v2 v3 v4) else (bnd1 (M_X9_isSession v1) fun r6 => if r6 = 0 then (some ((-1 : Int32), σ)) else (M_X9_make_J12 σ v1 v2 v3 v4))
def M_X9_asked_L29 (v2 : Int32) (v3 : Int32) (v4 : Int32) (v5 : Int32) (σ : Wd) : Option ((Int32 × Wd) ⊕ (Wd)) :=
  chk (ib (gI σ 0 18) 2) (if (gI σ 10 (ix (gI σ 0 18))) ≤ v5 then (some (.inr σ)) else (bnd1 (M_X9_vectorOf σ v2 v5) fun r47 => chk (ib ((v4 + (3 : Int32)) + v5) 770) (if r47 ≤ (gI σ 26 (ix ((v4 + (3 : Int32)) + v5))) then (lt (v5 + (1 : Int32)) fun v5_83 => some (.inl (v5_83, σ))) else (chk (ib ((v4 + (3 : Int32)) + v5) 770) (lt (uI σ 26 (ix ((v4 + (3 : Int32)) + v5)) r47) fun s_82 => lt (v5 + (1 : Int32)) fun v5_83 => some (.inl (v5_83, s_82)))))))
def M_X9_asked (σ : Wd) (v1 : Int32) (v2 : Int32) (v3 : Int32) : Option (Int32 × Wd) :=
  bnd1 (M_X9_mayAsk σ v1 v2) fun r3 => if r3 ≠ 0 then (lt ((50 : Int32) + ((14 : Int32) * v1)) fun v4_24 => bnd1 (iter (fun s : Int32 × Wd => M_X9_asked_L29 v2 v3 v4_24 s.1 s.2) FU ((0 : Int32), σ)) (un1 fun sx_29 => (bnd1 (M_X9_doesAll sx_29 v2) fun s_91 => chk (ib v3 6) (chk (ib (v4_24 + (2 : Int32)) 770) (lt (uI s_91 26 (ix (v4_24 + (2 : Int32))) (gI s_91 29 (ix v3))) fun s_108 => some ((1 : Int32), s_108)))))) else (bnd2 (M_X9_refused σ v1) fun r11 s_11 => some ((0 : Int32), s_11))
def M_X9_ask (σ : Wd) (v1 : Int32) (v2 : Int32) (v3 : Int32) : Option (Int32 × Wd) :=
  bnd1 (M_X9_isSession v1) fun r1 => if r1 = 0 then (some ((-1 : Int32), σ)) else (bnd1 (M_X9_isCopy σ v2) fun r9 => if r9 = 0 then (some ((-1 : Int32), σ)) else (bnd1 (M_X9_isCell σ v3) fun r17 => if r17 ≠ 0 then (bnd1 (M_X9_copiesNow σ) fun s_26 => bnd1 (M_X9_opens s_26 v2) fun s_31 => bnd2 (M_X9_asked s_31 v1 v2 v3) fun r38 s_38 => bnd1 (M_X9_shuts s_38 v2) fun s_45 => bnd1 (M_X9_records s_45) fun s_49 => some (r38, s_49)) else (some ((-1 : Int32), σ))))
def M_X9_got (σ : Wd) (v1 : Int32) : Option Int32 :=
  bnd1 (M_X9_isSession v1) fun r1 => if r1 = 0 then (some (0 : Int32)) else (chk (ib (((50 : Int32) + ((14 : Int32) * v1)) + (2 : Int32)) 770) (some (gI σ 25 (ix (((50 : Int32) + ((14 : Int32) * v1)) + (2 : Int32))))))
def M_X9_promise (σ : Wd) (v1 : Int32) (v2 : Int32) : Option (Int32 × Wd) :=
  bnd1 (M_X9_isSession v1) fun r1 => if r1 = 0 then (some ((0 : Int32), σ)) else (bnd1 (M_X9_in v2 (0 : Int32) (15 : Int32)) fun r11 => if r11 = 0 then (some ((0 : Int32), σ)) else (chk (ib ((50 : Int32) + ((14 : Int32) * v1)) 770) (if (gI σ 25 (ix ((50 : Int32) + ((14 : Int32) * v1)))) ≠ v2 then (bnd1 (M_X9_copiesNow σ) fun s_36 => chk (ib (((50 : Int32) + ((14 : Int32) * v1)) + (0 : Int32)) 770) (lt (uI s_36 26 (ix (((50 : Int32) + ((14 : Int32) * v1)) + (0 : Int32))) v2) fun s_53 => bnd1 (M_X9_records s_53) fun s_55 => some ((1 : Int32), s_55))) else (some ((0 : Int32), σ)))))
def M_X9_areTwo (σ : Wd) (v1 : Int32) (v2 : Int32) : Option Int32 :=
  bnd1 (M_X9_isCopy σ v1) fun r2 => if r2 = 0 then (some (0 : Int32)) else (bnd1 (M_X9_isCopy σ v2) fun r10 => if r10 = 0 then (some (0 : Int32)) else (if v1 = v2 then (some (0 : Int32)) else (some (1 : Int32))))
def M_X9_meet (σ : Wd) (v1 : Int32) (v2 : Int32) : Option (Int32 × Wd) :=
  bnd1 (M_X9_areTwo σ v1 v2) fun r3 => if r3 ≠ 0 then (bnd1 (M_X9_copiesNow σ) fun s_12 => bnd2 (M_X9_meets s_12 v1 v2) fun r18 s_18 => bnd1 (M_X9_records s_18) fun s_23 => some (r18, s_23)) else (some ((-1 : Int32), σ))
def M_X9_lead (σ : Wd) (v1 : Int32) : Option (Int32 × Wd) :=
  bnd1 (M_X9_copiesNow σ) fun s_1 => bnd1 (M_X9_isCopy s_1 v1) fun r6 => if r6 = 0 then (some ((0 : Int32), s_1)) else (chk (ib (2 : Int32) 770) (if (gI s_1 26 (ix (2 : Int32))) = v1 then (some ((0 : Int32), s_1)) else (bnd1 (M_X9_ofCopy s_1 v1 (0 : Int32)) fun r25 => chk (ib (1 : Int32) 770) (if (gI s_1 26 (ix (1 : Int32))) ≤ r25 then (bnd1 (M_X9_opens s_1 v1) fun s_41 => chk (ib (2 : Int32) 770) (lt (uI s_41 26 (ix (2 : Int32)) v1) fun s_50 => bnd1 (M_X9_shuts s_50 v1) fun s_53 => bnd1 (M_X9_records s_53) fun s_57 => some ((1 : Int32), s_57))) else (some ((0 : Int32), s_1))))))
def M_X9_isLong (v0 : Int32) : Option Int32 :=
  bnd1 (M_X9_in v0 (0 : Int32) (60 : Int32)) fun r4 => chk (zb r4) (some r4)
def M_X9_chance_L26 (v1 : Int32) (v2 : Int32) (σ : Wd) : Option ((Int32 × Wd) ⊕ (Wd)) :=
  if v1 ≤ v2 then (some (.inr σ)) else (bnd1 (M_X9_meetsByChance σ) fun s_32 => lt (v2 + (1 : Int32)) fun v2_35 => some (.inl (v2_35, s_32)))
def M_X9_chance (σ : Wd) (v1 : Int32) : Option (Int32 × Wd) :=
  bnd1 (M_X9_isLong v1) fun r1 => if r1 ≠ 0 then (if v1 ≠ 0 then (bnd1 (M_X9_copiesNow σ) fun s_21 => bnd1 (iter (fun s : Int32 × Wd => M_X9_chance_L26 v1 s.1 s.2) FU ((0 : Int32), s_21)) (un1 fun sx_26 => (bnd1 (M_X9_records sx_26) fun s_42 => chk (ib (3 : Int32) 770) (some ((gI s_42 25 (ix (3 : Int32))), s_42))))) else (chk (ib (3 : Int32) 770) (some ((gI σ 25 (ix (3 : Int32))), σ)))) else (some ((-1 : Int32), σ))
def M_X9_undo_L21 (v1 : Int32) (σ : Wd) : Option ((Int32 × Wd) ⊕ (Wd)) :=
  if (770 : Int32) ≤ v1 then (some (.inr σ)) else (chk (ib (((770 : Int32) * (gI σ 0 51)) + v1) 30800) (chk (ib v1 770) (lt (uI σ 25 (ix v1) (gI σ 32 (ix (((770 : Int32) * (gI σ 0 51)) + v1)))) fun s_48 => lt (v1 + (1 : Int32)) fun v1_49 => some (.inl (v1_49, s_48)))))
def M_X9_undo (σ : Wd) : Option (Int32 × Wd) :=
  if (gI σ 0 51) ≠ 0 then (lt (uI σ 0 51 ((gI σ 0 51) - (1 : Int32))) fun s_16 => bnd1 (iter (fun s : Int32 × Wd => M_X9_undo_L21 s.1 s.2) FU ((0 : Int32), s_16)) (un1 fun sx_21 => (some ((1 : Int32), sx_21)))) else (some ((0 : Int32), σ))
def M_X9_cell_J45 (σ : Wd) (v2 : Int32) (t0 : Int32) : Option (Int32 × Wd) :=
  bnd1 (M_X9_doesLog σ t0) fun s_45 => chk (ib v2 6) (some ((gI s_45 29 (ix v2)), s_45))
def M_X9_cell (σ : Wd) (v1 : Int32) (v2 : Int32) (v3 : Int32) : Option (Int32 × Wd) :=
  bnd1 (M_X9_isCopy σ v1) fun r2 => if r2 = 0 then (some ((0 : Int32), σ)) else (bnd1 (M_X9_isCell σ v2) fun r10 => if r10 ≠ 0 then (bnd1 (M_X9_copiesNow σ) fun s_19 => bnd1 (M_X9_fillsLog s_19 v1) fun s_24 => if v3 = 0 then (M_X9_cell_J45 s_24 v2 (gI s_24 0 45)) else (bnd1 (M_X9_ofCopy s_24 v1 (0 : Int32)) fun r35 => M_X9_cell_J45 s_24 v2 r35)) else (some ((0 : Int32), σ)))
def M_X9_log (σ : Wd) (v1 : Int32) (v2 : Int32) : Option (Int32 × Wd) :=
  bnd1 (M_X9_isCopy σ v1) fun r2 => if r2 ≠ 0 then (bnd1 (M_X9_copiesNow σ) fun s_11 => bnd1 (M_X9_fillsLog s_11 v1) fun s_16 => bnd1 (M_X9_in v2 (0 : Int32) ((gI s_16 0 45) - (1 : Int32))) fun r27 => if r27 = 0 then (some ((-1 : Int32), s_16)) else (chk (ib v2 60) (some ((gI s_16 27 (ix v2)), s_16)))) else (some ((-1 : Int32), σ))
def M_X9_whereOf_L2 (σ : Wd) (v1 : Int32) (v2 : Int32) : Option ((Int32) ⊕ ((Unit) ⊕ Int32)) :=
  if (gI σ 0 45) ≤ v2 then (some (.inr (.inl ()))) else (chk (ib v2 60) (if (gI σ 27 (ix v2)) ≠ v1 then (lt (v2 + (1 : Int32)) fun v2_22 => some (.inl v2_22)) else (some (.inr (.inr v2)))))
def M_X9_whereOf (σ : Wd) (v1 : Int32) : Option Int32 :=
  bnd1 (iter (fun s : Int32 => M_X9_whereOf_L2 σ v1 s) FU (0 : Int32)) (sx (un0 (some (-1 : Int32))) (fun q => some q))
def M_X9_outcome (σ : Wd) (v1 : Int32) (v2 : Int32) : Option (Int32 × Wd) :=
  bnd1 (M_X9_isCopy σ v1) fun r2 => if r2 = 0 then (some ((-1 : Int32), σ)) else (bnd1 (M_X9_isWrite σ v2) fun r10 => if r10 ≠ 0 then (bnd1 (M_X9_copiesNow σ) fun s_19 => bnd1 (M_X9_doesAll s_19 v1) fun s_24 => bnd1 (M_X9_whereOf s_24 v2) fun r29 => if 0 ≤ r29 then (chk (ib r29 60) (some ((gI s_24 30 (ix r29)), s_24))) else (some ((-2 : Int32), s_24))) else (some ((-1 : Int32), σ)))
def M_X9_write_L87 (σ : Wd) (v1 : Int32) (v3 : Int32) (v4 : Int32) : Option ((Int32 × Int32) ⊕ (Int32)) :=
  chk (ib (gI σ 0 18) 2) (if (gI σ 10 (ix (gI σ 0 18))) ≤ v4 then (some (.inr v3)) else (bnd1 (M_X9_doesHave σ v4 v1) fun r105 => if r105 = 0 then (lt (v4 + (1 : Int32)) fun v4_118 => some (.inl (v3, v4_118))) else (lt (v3 ||| ((1 : Int32) <<< (v4 &&& 31))) fun v3_117 => lt (v4 + (1 : Int32)) fun v4_118 => some (.inl (v3_117, v4_118)))))
def M_X9_write_L129 (σ : Wd) (v1 : Int32) (v3 : Int32) (v4 : Int32) : Option ((Int32 × Int32) ⊕ (Int32)) :=
  chk (ib (gI σ 0 18) 2) (if (gI σ 10 (ix (gI σ 0 18))) ≤ v4 then (some (.inr v3)) else (bnd1 (M_X9_isKnown σ v4 v1) fun r147 => if r147 = 0 then (lt (v4 + (1 : Int32)) fun v4_160 => some (.inl (v3, v4_160))) else (lt (v3 ||| ((1 : Int32) <<< (v4 &&& 31))) fun v3_159 => lt (v4 + (1 : Int32)) fun v4_160 => some (.inl (v3_159, v4_160)))))
def M_X9_write (σ : Wd) (v1 : Int32) (v2 : Int32) : Option (Int32 × Wd) :=
  bnd1 (M_X9_isWrite σ v1) fun r2 => if r2 ≠ 0 then (bnd1 (M_X9_copiesNow σ) fun s_11 => if v2 = (0 : Int32) then (bnd1 (M_X9_ofWrite s_11 v1 (0 : Int32)) fun r59 => some (r59, s_11)) else (if v2 = (1 : Int32) then (bnd1 (M_X9_ofWrite s_11 v1 (2 : Int32)) fun r66 => some (r66, s_11)) else (if v2 = (2 : Int32) then (bnd1 (M_X9_ofWrite s_11 v1 (3 : Int32)) fun r73 => some (r73, s_11)) else (if v2 = (3 : Int32) then (bnd1 (M_X9_ofWrite s_11 v1 (4 : Int32)) fun r80 => some (r80, s_11)) else (if v2 = (4 : Int32) then (bnd1 (iter (fun s : Int32 × Int32 => M_X9_write_L87 s_11 v1 s.1 s.2) FU ((0 : Int32), (0 : Int32))) (un1 fun x3_87 => (some (x3_87, s_11)))) else (if v2 = (5 : Int32) then (bnd1 (iter (fun s : Int32 × Int32 => M_X9_write_L129 s_11 v1 s.1 s.2) FU ((0 : Int32), (0 : Int32))) (un1 fun x3_129 => (some (x3_129, s_11)))) else (some ((-1 : Int32), s_11)))))))) else (some ((-1 : Int32), σ))
def M_X9_with (σ : Wd) (v1 : Int32) : Option Int32 :=
  bnd1 (M_X9_isWrite σ v1) fun r2 => if r2 = 0 then (some (0 : Int32)) else (chk (ib (((110 : Int32) + ((5 : Int32) * v1)) + (1 : Int32)) 770) (some (gI σ 25 (ix (((110 : Int32) + ((5 : Int32) * v1)) + (1 : Int32))))))
def M_X9_copy (σ : Wd) (v1 : Int32) (v2 : Int32) : Option (Int32 × Wd) :=
  bnd1 (M_X9_isCopy σ v1) fun r2 => if r2 = 0 then (some ((-1 : Int32), σ)) else (bnd1 (M_X9_in v2 (0 : Int32) (8 : Int32)) fun r12 => if r12 ≠ 0 then (bnd1 (M_X9_copiesNow σ) fun s_21 => bnd1 (M_X9_doesAll s_21 v1) fun s_26 => if v2 = (0 : Int32) then (bnd1 (M_X9_clockOf s_26 v1) fun r82 => some (r82, s_26)) else (if v2 = (1 : Int32) then (some ((gI s_26 0 45), s_26)) else (if v2 = (7 : Int32) then (bnd1 (M_X9_outcomes s_26 (1 : Int32) (1 : Int32)) fun r94 => some (r94, s_26)) else (if v2 = (8 : Int32) then (bnd1 (M_X9_outcomes s_26 (2 : Int32) (3 : Int32)) fun r101 => some (r101, s_26)) else (bnd1 (M_X9_ofCopy s_26 v1 (v2 - (2 : Int32))) fun r110 => some (r110, s_26)))))) else (some ((-1 : Int32), σ)))
def M_X9_vector (σ : Wd) (v1 : Int32) (v2 : Int32) : Option (Int32 × Wd) :=
  bnd1 (M_X9_copiesNow σ) fun s_1 => bnd1 (M_X9_isCopy s_1 v1) fun r6 => if r6 = 0 then (some ((-1 : Int32), s_1)) else (bnd1 (M_X9_isCopy s_1 v2) fun r14 => if r14 = 0 then (some ((-1 : Int32), s_1)) else (bnd1 (M_X9_vectorOf s_1 v1 v2) fun r23 => some (r23, s_1)))
def M_X9_session (σ : Wd) (v1 : Int32) (v2 : Int32) : Option Int32 :=
  bnd1 (M_X9_isSession v1) fun r1 => if r1 = 0 then (some (-1 : Int32)) else (bnd1 (M_X9_in v2 (0 : Int32) (1 : Int32)) fun r10 => if r10 = 0 then (some (-1 : Int32)) else (chk (ib (((50 : Int32) + ((14 : Int32) * v1)) + v2) 770) (some (gI σ 25 (ix (((50 : Int32) + ((14 : Int32) * v1)) + v2))))))
def M_X9_of_J36 (σ : Wd) (v2 : Int32) (t0 : Int32) (t1 : Int32) : Option Int32 :=
  chk (ib ((t1 + t0) + v2) 770) (some (gI σ 25 (ix ((t1 + t0) + v2))))
def M_X9_of (σ : Wd) (v1 : Int32) (v2 : Int32) (v3 : Int32) : Option Int32 :=
  bnd1 (M_X9_isSession v1) fun r1 => if r1 = 0 then (some (-1 : Int32)) else (bnd1 (M_X9_isCopy σ v2) fun r9 => if r9 = 0 then (some (-1 : Int32)) else (if v3 = 0 then (M_X9_of_J36 σ v2 (3 : Int32) ((50 : Int32) + ((14 : Int32) * v1))) else (M_X9_of_J36 σ v2 (8 : Int32) ((50 : Int32) + ((14 : Int32) * v1)))))
def M_X9_shut (σ : Wd) (v1 : Int32) : Option Int32 :=
  bnd1 (M_X9_in v1 (0 : Int32) (7 : Int32)) fun r4 => if r4 ≠ 0 then (chk (ib (4 : Int32) 770) (if (gI σ 25 (ix (4 : Int32))) ≤ v1 then (some (-2 : Int32)) else (chk (ib ((5 : Int32) + v1) 770) (some (gI σ 25 (ix ((5 : Int32) + v1))))))) else (some (-1 : Int32))
def M_X9_lacksOf_L5 (σ : Wd) (v1 : Int32) (v2 : Int32) (v3 : Int32) (v4 : Int32) : Option ((Int32 × Int32) ⊕ (Int32)) :=
  chk (ib (0 : Int32) 770) (if (gI σ 26 (ix (0 : Int32))) ≤ v4 then (some (.inr v3)) else (bnd1 (M_X9_doesHave σ v1 v4) fun r20 => if r20 = 0 then (lt (v4 + (1 : Int32)) fun v4_39 => some (.inl (v3, v4_39))) else (bnd1 (M_X9_doesHave σ v2 v4) fun r30 => if r30 ≠ 0 then (lt (v4 + (1 : Int32)) fun v4_39 => some (.inl (v3, v4_39))) else (lt (v3 + (1 : Int32)) fun v3_36 => lt (v4 + (1 : Int32)) fun v4_39 => some (.inl (v3_36, v4_39))))))
def M_X9_lacksOf (σ : Wd) (v1 : Int32) (v2 : Int32) : Option Int32 :=
  bnd1 (iter (fun s : Int32 × Int32 => M_X9_lacksOf_L5 σ v1 v2 s.1 s.2) FU ((0 : Int32), (0 : Int32))) (un1 fun x3_5 => (some x3_5))
def M_X9_areAlike (σ : Wd) (v1 : Int32) (v2 : Int32) : Option Int32 :=
  bnd1 (M_X9_lacksOf σ v1 v2) fun r3 => if r3 ≠ 0 then (some (0 : Int32)) else (bnd1 (M_X9_lacksOf σ v2 v1) fun r12 => if r12 ≠ 0 then (some (0 : Int32)) else (bnd1 (M_X9_ofCopy σ v1 (0 : Int32)) fun r21 => bnd1 (M_X9_ofCopy σ v2 (0 : Int32)) fun r27 => if r21 ≠ r27 then (some (0 : Int32)) else (some (1 : Int32))))
def M_X9_areAllAlike_L2 (σ : Wd) (v1 : Int32) : Option ((Int32) ⊕ ((Unit) ⊕ Int32)) :=
  chk (ib (gI σ 0 18) 2) (if (gI σ 10 (ix (gI σ 0 18))) ≤ v1 then (some (.inr (.inl ()))) else (bnd1 (M_X9_areAlike σ (0 : Int32) v1) fun r18 => if r18 ≠ 0 then (lt (v1 + (1 : Int32)) fun v1_26 => some (.inl v1_26)) else (some (.inr (.inr (0 : Int32))))))
def M_X9_areAllAlike (σ : Wd) : Option Int32 :=
  bnd1 (iter (fun s : Int32 => M_X9_areAllAlike_L2 σ s) FU (1 : Int32)) (sx (un0 (some (1 : Int32))) (fun q => some q))
def M_X9_lacks (σ : Wd) (v1 : Int32) (v2 : Int32) : Option (Int32 × Wd) :=
  bnd1 (M_X9_copiesNow σ) fun s_1 => bnd1 (M_X9_isCopy s_1 v1) fun r6 => if r6 = 0 then (some ((-1 : Int32), s_1)) else (bnd1 (M_X9_isCopy s_1 v2) fun r14 => if r14 = 0 then (some ((-1 : Int32), s_1)) else (bnd1 (M_X9_lacksOf s_1 v1 v2) fun r23 => some (r23, s_1)))
def M_X9_would (σ : Wd) (v1 : Int32) (v2 : Int32) : Option (Int32 × Wd) :=
  bnd1 (M_X9_areTwo σ v1 v2) fun r3 => if r3 ≠ 0 then (bnd1 (M_X9_copiesNow σ) fun s_12 => bnd2 (M_X9_meets s_12 v1 v2) fun r18 s_18 => some (r18, s_18)) else (some ((-1 : Int32), σ))
def M_X9_differ_L29 (v2 : Int32) (v3 : Int32) (σ : Wd) : Option ((Int32 × Wd) ⊕ (Wd)) :=
  if (6 : Int32) ≤ v3 then (some (.inr σ)) else (chk (ib v3 6) (chk (ib v3 6) (lt (uI σ 33 (ix v3) (gI σ 29 (ix v3))) fun s_46 => lt (v3 + (1 : Int32)) fun v3_47 => some (.inl (v3_47, s_46)))))
def M_X9_differ_L63 (σ : Wd) (v3 : Int32) (v4 : Int32) : Option ((Int32 × Int32) ⊕ (Int32)) :=
  chk (ib (gI σ 0 18) 2) (if (gI σ 12 (ix (gI σ 0 18))) ≤ v4 then (some (.inr v3)) else (chk (ib v4 6) (chk (ib v4 6) (if (gI σ 33 (ix v4)) = (gI σ 29 (ix v4)) then (lt (v4 + (1 : Int32)) fun v4_101 => some (.inl (v3, v4_101))) else (lt (v3 ||| ((1 : Int32) <<< (v4 &&& 31))) fun v3_100 => lt (v4 + (1 : Int32)) fun v4_101 => some (.inl (v3_100, v4_101)))))))
def M_X9_differ (σ : Wd) (v1 : Int32) (v2 : Int32) : Option (Int32 × Wd) :=
  bnd1 (M_X9_isCopy σ v1) fun r2 => if r2 = 0 then (some ((-1 : Int32), σ)) else (bnd1 (M_X9_isCopy σ v2) fun r10 => if r10 ≠ 0 then (bnd1 (M_X9_copiesNow σ) fun s_19 => bnd1 (M_X9_doesAll s_19 v1) fun s_24 => bnd1 (iter (fun s : Int32 × Wd => M_X9_differ_L29 v2 s.1 s.2) FU ((0 : Int32), s_24)) (un1 fun sx_29 => (bnd1 (M_X9_doesAll sx_29 v2) fun s_55 => bnd1 (iter (fun s : Int32 × Int32 => M_X9_differ_L63 s_55 s.1 s.2) FU ((0 : Int32), (0 : Int32))) (un1 fun x3_63 => (some (x3_63, s_55)))))) else (some ((-1 : Int32), σ)))
def M_X9_alike (σ : Wd) (v1 : Int32) (v2 : Int32) : Option (Int32 × Wd) :=
  bnd1 (M_X9_copiesNow σ) fun s_1 => bnd1 (M_X9_isCopy s_1 v1) fun r6 => if r6 = 0 then (some ((-1 : Int32), s_1)) else (bnd1 (M_X9_isCopy s_1 v2) fun r14 => if r14 ≠ 0 then (bnd1 (M_X9_areAlike s_1 v1 v2) fun r27 => if r27 = 0 then (some ((0 : Int32), s_1)) else (some ((1 : Int32), s_1))) else (some ((-1 : Int32), s_1)))
def M_X9_fork (σ : Wd) (v1 : Int32) (v2 : Int32) : Option (Int32 × Wd) :=
  bnd1 (M_X9_isCopy σ v1) fun r2 => if r2 = 0 then (some ((-1 : Int32), σ)) else (bnd1 (M_X9_isCopy σ v2) fun r10 => if r10 ≠ 0 then (bnd1 (M_X9_copiesNow σ) fun s_19 => bnd1 (M_X9_fillsLog s_19 v1) fun s_24 => bnd1 (M_X9_keepsLog s_24) fun s_28 => bnd1 (M_X9_fillsLog s_28 v2) fun s_33 => bnd1 (M_X9_alikeLogs s_33) fun r37 => some (r37, s_33)) else (some ((-1 : Int32), σ)))
def M_X9_fillsHangs_L2 (v1 : Int32) (v2 : Int32) (σ : Wd) : Option ((Int32 × Wd) ⊕ (Wd)) :=
  if (gI σ 0 45) ≤ v2 then (some (.inr σ)) else (chk (ib v2 60) (chk (ib v2 60) (lt (uI σ 34 (ix v2) (gI σ 30 (ix v2))) fun s_21 => lt (v2 + (1 : Int32)) fun v2_22 => some (.inl (v2_22, s_21)))))
def M_X9_fillsHangs_J108 (σ : Wd) (v1 : Int32) (v2 : Int32) : Option ((Int32 × Wd) ⊕ (Wd)) :=
  lt (uI σ 0 55 ((gI σ 0 55) + (1 : Int32))) fun s_115 => lt (v2 + (1 : Int32)) fun v2_118 => some (.inl (v2_118, s_115))
def M_X9_fillsHangs_L45 (v1 : Int32) (v2 : Int32) (σ : Wd) : Option ((Int32 × Wd) ⊕ (Wd)) :=
  if (gI σ 0 45) ≤ v2 then (some (.inr σ)) else (if v2 ≠ v1 then (chk (ib v2 60) (bnd2 (M_X9_doneOne σ (gI σ 27 (ix v2)) v2) fun r69 s_69 => if v2 < v1 then (lt (v2 + (1 : Int32)) fun v2_118 => some (.inl (v2_118, s_69))) else (chk (ib v2 60) (if r69 ≠ (gI s_69 34 (ix v2)) then (if (gI s_69 0 55) ≠ 0 then (M_X9_fillsHangs_J108 s_69 v1 v2) else (chk (ib v2 60) (lt (uI s_69 0 56 (gI s_69 27 (ix v2))) fun s_105 => M_X9_fillsHangs_J108 s_105 v1 v2))) else (lt (v2 + (1 : Int32)) fun v2_118 => some (.inl (v2_118, s_69))))))) else (lt (v2 + (1 : Int32)) fun v2_118 => some (.inl (v2_118, σ))))
def M_X9_fillsHangs_L126 (v2 : Int32) (σ : Wd) : Option ((Int32 × Wd) ⊕ (Wd)) :=
  if (gI σ 0 45) ≤ v2 then (some (.inr σ)) else (chk (ib v2 60) (chk (ib v2 60) (lt (uI σ 30 (ix v2) (gI σ 34 (ix v2))) fun s_145 => lt (v2 + (1 : Int32)) fun v2_146 => some (.inl (v2_146, s_145)))))
def M_X9_fillsHangs (σ : Wd) (v1 : Int32) : Option Wd :=
  bnd1 (iter (fun s : Int32 × Wd => M_X9_fillsHangs_L2 v1 s.1 s.2) FU ((0 : Int32), σ)) (un1 fun sx_2 => (bnd1 (M_X9_firstCells sx_2) fun s_29 => lt (uI s_29 0 55 (0 : Int32)) fun s_34 => lt (uI s_34 0 56 (-2 : Int32)) fun s_40 => bnd1 (iter (fun s : Int32 × Wd => M_X9_fillsHangs_L45 v1 s.1 s.2) FU ((0 : Int32), s_40)) (un1 fun sx_45 => (bnd1 (iter (fun s : Int32 × Wd => M_X9_fillsHangs_L126 s.1 s.2) FU ((0 : Int32), sx_45)) (un1 fun sx_126 => (some sx_126))))))
def M_X9_hangs (σ : Wd) (v1 : Int32) (v2 : Int32) (v3 : Int32) : Option (Int32 × Wd) :=
  bnd1 (M_X9_isCopy σ v1) fun r2 => if r2 = 0 then (some ((-1 : Int32), σ)) else (bnd1 (M_X9_isWrite σ v2) fun r10 => if r10 = 0 then (some ((-1 : Int32), σ)) else (bnd1 (M_X9_in v3 (0 : Int32) (1 : Int32)) fun r19 => if r19 ≠ 0 then (bnd1 (M_X9_copiesNow σ) fun s_28 => bnd1 (M_X9_doesAll s_28 v1) fun s_33 => bnd1 (M_X9_whereOf s_33 v2) fun r38 => if 0 ≤ r38 then (bnd1 (M_X9_fillsHangs s_33 r38) fun s_54 => if v3 ≠ 0 then (some ((gI s_54 0 56), s_54)) else (some ((gI s_54 0 55), s_54))) else (some ((-3 : Int32), s_33))) else (some ((-1 : Int32), σ))))
def M_X9_key_L38 (v2 : Int32) (v3 : Int32) (v4 : Int32) (v5 : Int32) (σ : Wd) : Option ((Int32 × Int32 × Int32 × Wd) ⊕ (Int32 × Int32 × Wd)) :=
  if (gI σ 0 45) ≤ v5 then (some (.inr (v3, v4, σ))) else (bnd1 (M_X9_fillsHangs σ v5) fun s_50 => if (gI s_50 0 55) = 0 then (lt (v5 + (1 : Int32)) fun v5_86 => some (.inl (v3, v4, v5_86, s_50))) else (if v4 < (gI s_50 0 55) then (chk (ib v5 60) (lt (gI s_50 27 (ix v5)) fun v3_79 => lt (gI s_50 0 55) fun v4_84 => lt (v5 + (1 : Int32)) fun v5_86 => some (.inl (v3_79, v4_84, v5_86, s_50)))) else (lt (v5 + (1 : Int32)) fun v5_86 => some (.inl (v3, v4, v5_86, s_50)))))
def M_X9_key (σ : Wd) (v1 : Int32) (v2 : Int32) : Option (Int32 × Wd) :=
  bnd1 (M_X9_isCopy σ v1) fun r2 => if r2 = 0 then (some ((-1 : Int32), σ)) else (bnd1 (M_X9_in v2 (0 : Int32) (1 : Int32)) fun r11 => if r11 ≠ 0 then (bnd1 (M_X9_copiesNow σ) fun s_20 => bnd1 (M_X9_doesAll s_20 v1) fun s_25 => bnd1 (iter (fun s : Int32 × Int32 × Int32 × Wd => M_X9_key_L38 v2 s.1 s.2.1 s.2.2.1 s.2.2.2) FU ((-2 : Int32), (-2 : Int32), (0 : Int32), s_25)) (un3 fun x3_38 x4_38 sx_38 => (if v2 ≠ 0 then (some (x4_38, sx_38)) else (some (x3_38, sx_38))))) else (some ((-1 : Int32), σ)))
def M_X9_behind_J48 (σ : Wd) (v2 : Int32) (t0 : Int32) : Option (Int32 × Wd) :=
  bnd1 (M_X9_doesLog σ t0) fun s_48 => chk (ib v2 6) (some ((gI s_48 29 (ix v2)), s_48))
def M_X9_behind (σ : Wd) (v1 : Int32) (v2 : Int32) (v3 : Int32) : Option (Int32 × Wd) :=
  bnd1 (M_X9_isCopy σ v1) fun r2 => if r2 = 0 then (some ((0 : Int32), σ)) else (bnd1 (M_X9_isCell σ v2) fun r10 => if r10 = 0 then (some ((0 : Int32), σ)) else (if 0 ≤ v3 then (bnd1 (M_X9_copiesNow σ) fun s_23 => bnd1 (M_X9_fillsLog s_23 v1) fun s_28 => if (gI s_28 0 45) ≤ v3 then (M_X9_behind_J48 s_28 v2 (gI s_28 0 45)) else (M_X9_behind_J48 s_28 v2 v3)) else (some ((0 : Int32), σ))))
def M_X9_share (σ : Wd) (v1 : Int32) : Option (Int32 × Wd) :=
  bnd1 (M_X9_isCopy σ v1) fun r2 => if r2 ≠ 0 then (bnd1 (M_X9_copiesNow σ) fun s_11 => bnd1 (M_X9_fillsLog s_11 v1) fun s_16 => chk (ib (0 : Int32) 770) (if (gI s_16 26 (ix (0 : Int32))) ≠ 0 then (chk (ib (0 : Int32) 770) (chk (¬ (gI s_16 26 (ix (0 : Int32))) = 0) (some ((((1000 : Int32) * (gI s_16 0 45)) / (gI s_16 26 (ix (0 : Int32)))), s_16)))) else (some ((0 : Int32), s_16)))) else (some ((-1 : Int32), σ))
def M_X9_setter_L33 (σ : Wd) (v2 : Int32) (v3 : Int32) (v4 : Int32) : Option ((Int32 × Int32) ⊕ (Int32)) :=
  if (gI σ 0 45) ≤ v4 then (some (.inr v3)) else (chk (ib v4 60) (if (gI σ 31 (ix v4)) ≠ v2 then (lt (v4 + (1 : Int32)) fun v4_61 => some (.inl (v3, v4_61))) else (chk (ib v4 60) (lt (gI σ 27 (ix v4)) fun v3_60 => lt (v4 + (1 : Int32)) fun v4_61 => some (.inl (v3_60, v4_61))))))
def M_X9_setter (σ : Wd) (v1 : Int32) (v2 : Int32) : Option (Int32 × Wd) :=
  bnd1 (M_X9_isCopy σ v1) fun r2 => if r2 = 0 then (some ((-1 : Int32), σ)) else (bnd1 (M_X9_isCell σ v2) fun r10 => if r10 ≠ 0 then (bnd1 (M_X9_copiesNow σ) fun s_19 => bnd1 (M_X9_doesAll s_19 v1) fun s_24 => bnd1 (iter (fun s : Int32 × Int32 => M_X9_setter_L33 s_24 v2 s.1 s.2) FU ((-2 : Int32), (0 : Int32))) (un1 fun x3_33 => (some (x3_33, s_24)))) else (some ((-1 : Int32), σ)))
def M_X9_ahead (σ : Wd) (v1 : Int32) (v2 : Int32) (v3 : Int32) : Option (Int32 × Wd) :=
  bnd1 (M_X9_isCopy σ v1) fun r2 => if r2 = 0 then (some ((-1 : Int32), σ)) else (bnd1 (M_X9_isWrite σ v2) fun r10 => if r10 = 0 then (some ((-1 : Int32), σ)) else (bnd1 (M_X9_isWrite σ v3) fun r18 => if r18 = 0 then (some ((-1 : Int32), σ)) else (if v2 ≠ v3 then (bnd1 (M_X9_copiesNow σ) fun s_32 => bnd1 (M_X9_fillsLog s_32 v1) fun s_37 => bnd1 (M_X9_whereOf s_37 v2) fun r42 => if r42 < 0 then (some ((-2 : Int32), s_37)) else (bnd1 (M_X9_whereOf s_37 v3) fun r50 => if 0 ≤ r50 then (bnd1 (M_X9_whereOf s_37 v2) fun r61 => bnd1 (M_X9_whereOf s_37 v3) fun r66 => if r66 ≤ r61 then (some ((0 : Int32), s_37)) else (some ((1 : Int32), s_37))) else (some ((-2 : Int32), s_37)))) else (some ((-1 : Int32), σ)))))
def M_X9_clash_L21 (σ : Wd) (v2 : Int32) : Option ((Int32) ⊕ ((Unit) ⊕ (Int32 × Wd))) :=
  if (gI σ 0 45) ≤ v2 then (some (.inr (.inl ()))) else (chk (ib v2 60) (if (gI σ 30 (ix v2)) ≤ 0 then (lt (v2 + (1 : Int32)) fun v2_45 => some (.inl v2_45)) else (chk (ib v2 60) (some (.inr (.inr ((gI σ 27 (ix v2)), σ)))))))
def M_X9_clash (σ : Wd) (v1 : Int32) : Option (Int32 × Wd) :=
  bnd1 (M_X9_isCopy σ v1) fun r2 => if r2 ≠ 0 then (bnd1 (M_X9_copiesNow σ) fun s_11 => bnd1 (M_X9_doesAll s_11 v1) fun s_16 => bnd1 (iter (fun s : Int32 => M_X9_clash_L21 s_16 s) FU (0 : Int32)) (sx (un0 (some ((-2 : Int32), s_16))) (fun q => some q))) else (some ((-1 : Int32), σ))
def M_X9_may_J59 (σ : Wd) (v1 : Int32) (v2 : Int32) (v3 : Int32) (v4 : Int32) : Option ((Int32 × Int32) ⊕ (Int32)) :=
  lt (v3 ||| ((1 : Int32) <<< (v4 &&& 31))) fun v3_65 => lt (v4 + (1 : Int32)) fun v4_66 => some (.inl (v3_65, v4_66))
def M_X9_may_L18 (σ : Wd) (v1 : Int32) (v2 : Int32) (v3 : Int32) (v4 : Int32) : Option ((Int32 × Int32) ⊕ (Int32)) :=
  chk (ib (gI σ 0 18) 2) (if (gI σ 10 (ix (gI σ 0 18))) ≤ v4 then (some (.inr v3)) else (if v2 = 0 then (bnd1 (M_X9_mayAsk σ v1 v4) fun r53 => if r53 = 0 then (lt (v4 + (1 : Int32)) fun v4_66 => some (.inl (v3, v4_66))) else (M_X9_may_J59 σ v1 v2 v3 v4)) else (bnd1 (M_X9_mayMake σ v1 v4) fun r40 => if r40 = 0 then (lt (v4 + (1 : Int32)) fun v4_66 => some (.inl (v3, v4_66))) else (M_X9_may_J59 σ v1 v2 v3 v4))))
def M_X9_may (σ : Wd) (v1 : Int32) (v2 : Int32) : Option (Int32 × Wd) :=
  bnd1 (M_X9_isSession v1) fun r1 => if r1 ≠ 0 then (bnd1 (M_X9_copiesNow σ) fun s_10 => bnd1 (iter (fun s : Int32 × Int32 => M_X9_may_L18 s_10 v1 v2 s.1 s.2) FU ((0 : Int32), (0 : Int32))) (un1 fun x3_18 => (some (x3_18, s_10)))) else (some ((-1 : Int32), σ))
def M_X9_bits_L4 (v0 : Int32) (v1 : Int32) (v2 : Int32) : Option ((Int32 × Int32) ⊕ (Int32)) :=
  if (5 : Int32) ≤ v2 then (some (.inr v1)) else (lt (v1 + ((v0 >>> (v2 &&& 31)) &&& (1 : Int32))) fun v1_16 => lt (v2 + (1 : Int32)) fun v2_17 => some (.inl (v1_16, v2_17)))
def M_X9_bits (v0 : Int32) : Option Int32 :=
  bnd1 (iter (fun s : Int32 × Int32 => M_X9_bits_L4 v0 s.1 s.2) FU ((0 : Int32), (0 : Int32))) (un1 fun x1_4 => (some x1_4))
def M_X9_isBrought_L30 (σ : Wd) (v1 : Int32) (v2 : Int32) (v3 : Int32) (v4 : Int32) (v5 : Int32) : Option ((Int32 × Int32 × Int32) ⊕ (Int32 × Int32)) :=
  chk (ib (gI σ 0 18) 2) (if (gI σ 10 (ix (gI σ 0 18))) ≤ v5 then (some (.inr (v3, v4))) else (bnd1 (M_X9_doesHave σ v5 v2) fun r48 => if r48 ≠ 0 then (if ((v1 >>> (v5 &&& 31)) &&& (1 : Int32)) ≠ (1 : Int32) then (lt (v5 + (1 : Int32)) fun v5_72 => some (.inl (v3, (1 : Int32), v5_72))) else (lt (v5 + (1 : Int32)) fun v5_72 => some (.inl ((1 : Int32), (1 : Int32), v5_72)))) else (lt (v5 + (1 : Int32)) fun v5_72 => some (.inl (v3, v4, v5_72)))))
def M_X9_isBrought_L2 (σ : Wd) (v1 : Int32) (v2 : Int32) : Option ((Int32) ⊕ ((Unit) ⊕ Int32)) :=
  chk (ib (0 : Int32) 770) (if (gI σ 26 (ix (0 : Int32))) ≤ v2 then (some (.inr (.inl ()))) else (chk (ib (2 : Int32) 770) (bnd1 (M_X9_doesHave σ (gI σ 26 (ix (2 : Int32))) v2) fun r20 => bnd1 (iter (fun s : Int32 × Int32 × Int32 => M_X9_isBrought_L30 σ v1 v2 s.1 s.2.1 s.2.2) FU (r20, r20, (0 : Int32))) (un2 fun x3_30 x4_30 => (if x4_30 = 0 then (lt (v2 + (1 : Int32)) fun v2_89 => some (.inl v2_89)) else (if x3_30 ≠ 0 then (lt (v2 + (1 : Int32)) fun v2_89 => some (.inl v2_89)) else (some (.inr (.inr (0 : Int32))))))))))
def M_X9_isBrought (σ : Wd) (v1 : Int32) : Option Int32 :=
  bnd1 (iter (fun s : Int32 => M_X9_isBrought_L2 σ v1 s) FU (0 : Int32)) (sx (un0 (some (1 : Int32))) (fun q => some q))
def M_X9_bringers_J59 (σ : Wd) (v2 : Int32) : Option ((Int32 × Int32) ⊕ (Int32)) :=
  lt (v2 + (1 : Int32)) fun v2_61 => some (.inl (v2, v2_61))
def M_X9_bringers_L4 (σ : Wd) (v1 : Int32) (v2 : Int32) : Option ((Int32 × Int32) ⊕ (Int32)) :=
  chk (ib (gI σ 0 18) 2) (if ((1 : Int32) <<< ((gI σ 10 (ix (gI σ 0 18))) &&& 31)) ≤ v2 then (some (.inr v1)) else (chk (ib (2 : Int32) 770) (if ((v2 >>> ((gI σ 26 (ix (2 : Int32))) &&& 31)) &&& (1 : Int32)) = (1 : Int32) then (lt (v2 + (1 : Int32)) fun v2_61 => some (.inl (v1, v2_61))) else (bnd1 (M_X9_isBrought σ v2) fun r35 => if r35 ≠ 0 then (if v1 < 0 then (M_X9_bringers_J59 σ v2) else (bnd1 (M_X9_bits v2) fun r49 => bnd1 (M_X9_bits v1) fun r53 => if r53 ≤ r49 then (lt (v2 + (1 : Int32)) fun v2_61 => some (.inl (v1, v2_61))) else (M_X9_bringers_J59 σ v2))) else (lt (v2 + (1 : Int32)) fun v2_61 => some (.inl (v1, v2_61)))))))
def M_X9_bringers (σ : Wd) : Option Int32 :=
  bnd1 (iter (fun s : Int32 × Int32 => M_X9_bringers_L4 σ s.1 s.2) FU ((-1 : Int32), (0 : Int32))) (un1 fun x1_4 => (some x1_4))
def M_X9_plan_L30 (v1 : Int32) (v2 : Int32) (v3 : Int32) (v4 : Int32) (σ : Wd) : Option ((Int32 × Wd) ⊕ (Wd)) :=
  chk (ib (gI σ 0 18) 2) (if (gI σ 10 (ix (gI σ 0 18))) ≤ v4 then (some (.inr σ)) else (if ((v2 >>> (v4 &&& 31)) &&& (1 : Int32)) ≠ (1 : Int32) then (lt (v4 + (1 : Int32)) fun v4_62 => some (.inl (v4_62, σ))) else (bnd2 (M_X9_meets σ v4 v3) fun r58 s_58 => lt (v4 + (1 : Int32)) fun v4_62 => some (.inl (v4_62, s_58)))))
def M_X9_plan_L74 (σ : Wd) (v1 : Int32) (v2 : Int32) (v3 : Int32) (v4 : Int32) (v5 : Int32) : Option ((Int32 × Int32) ⊕ (Int32)) :=
  chk (ib (gI σ 0 18) 2) (if (gI σ 10 (ix (gI σ 0 18))) ≤ v5 then (some (.inr v4)) else (bnd1 (M_X9_areAlike σ v5 v3) fun r92 => if r92 ≠ 0 then (lt (v5 + (1 : Int32)) fun v5_107 => some (.inl (v4, v5_107))) else (lt (v4 ||| ((1 : Int32) <<< (v5 &&& 31))) fun v4_105 => lt (v5 + (1 : Int32)) fun v5_107 => some (.inl (v4_105, v5_107)))))
def M_X9_plan (σ : Wd) (v1 : Int32) : Option (Int32 × Wd) :=
  bnd1 (M_X9_in v1 (0 : Int32) (2 : Int32)) fun r3 => if r3 ≠ 0 then (bnd1 (M_X9_copiesNow σ) fun s_12 => bnd1 (M_X9_bringers s_12) fun r16 => chk (ib (2 : Int32) 770) (lt (gI s_12 26 (ix (2 : Int32))) fun v3_26 => bnd1 (iter (fun s : Int32 × Wd => M_X9_plan_L30 v1 r16 v3_26 s.1 s.2) FU ((0 : Int32), s_12)) (un1 fun sx_30 => (bnd1 (iter (fun s : Int32 × Int32 => M_X9_plan_L74 sx_30 v1 r16 v3_26 s.1 s.2) FU ((0 : Int32), (0 : Int32))) (un1 fun x4_74 => (if v1 ≠ 0 then (if v1 ≠ (1 : Int32) then (some (x4_74, sx_30)) else (some (r16, sx_30))) else (bnd1 (M_X9_bits r16) fun r118 => bnd1 (M_X9_bits x4_74) fun r123 => some ((r118 + r123), sx_30)))))))) else (some ((-1 : Int32), σ))
def M_X9_isSettled (σ : Wd) : Option Int32 :=
  bnd1 (M_X9_areAllAlike σ) fun r1 => if r1 = 0 then (some (0 : Int32)) else (chk (ib (1 : Int32) 770) (chk (ib (0 : Int32) 770) (if (gI σ 26 (ix (1 : Int32))) ≠ (gI σ 26 (ix (0 : Int32))) then (some (0 : Int32)) else (some (1 : Int32)))))
def M_X9_soon_L6 (v1 : Int32) (σ : Wd) : Option ((Int32 × Wd) ⊕ ((Wd) ⊕ (Int32 × Wd))) :=
  if (60 : Int32) < v1 then (some (.inr (.inl σ))) else (bnd1 (M_X9_isSettled σ) fun r13 => if r13 = 0 then (bnd1 (M_X9_meetsByChance σ) fun s_22 => lt (v1 + (1 : Int32)) fun v1_25 => some (.inl (v1_25, s_22))) else (some (.inr (.inr (v1, σ)))))
def M_X9_soon (σ : Wd) : Option (Int32 × Wd) :=
  bnd1 (M_X9_copiesNow σ) fun s_1 => bnd1 (iter (fun s : Int32 × Wd => M_X9_soon_L6 s.1 s.2) FU ((0 : Int32), s_1)) (sx (un1 fun sx_6 => (some ((-2 : Int32), sx_6))) (fun q => some q))
def M_X9_year_L48 (v1 : Int32) (v2 : Int32) (v3 : Int32) (v4 : Int32) (v5 : Int32) (σ : Wd) : Option ((Int32 × Wd) ⊕ (Wd)) :=
  if v1 ≤ v5 then (some (.inr σ)) else (bnd1 (M_X9_meetsByChance σ) fun s_55 => lt (v5 + (1 : Int32)) fun v5_58 => some (.inl (v5_58, s_55)))
def M_X9_year_L24 (v1 : Int32) (v2 : Int32) (v3 : Int32) (v4 : Int32) (σ : Wd) : Option ((Int32 × Int32 × Wd) ⊕ (Int32 × Wd)) :=
  if v2 ≤ v4 then (some (.inr (v3, σ))) else (bnd1 (M_X9_copiesNow σ) fun s_31 => lt (uI s_31 0 43 ((gI s_31 0 43) + v4)) fun s_42 => bnd1 (iter (fun s : Int32 × Wd => M_X9_year_L48 v1 v2 v3 v4 s.1 s.2) FU ((0 : Int32), s_42)) (un1 fun sx_48 => (bnd1 (M_X9_isSettled sx_48) fun r65 => if r65 = 0 then (lt (v4 + (1 : Int32)) fun v4_74 => some (.inl (v3, v4_74, sx_48))) else (lt (v3 + (1 : Int32)) fun v3_71 => lt (v4 + (1 : Int32)) fun v4_74 => some (.inl (v3_71, v4_74, sx_48))))))
def M_X9_year (σ : Wd) (v1 : Int32) (v2 : Int32) : Option (Int32 × Wd) :=
  bnd1 (M_X9_isLong v1) fun r1 => if r1 = 0 then (some ((-1 : Int32), σ)) else (bnd1 (M_X9_in v2 (1 : Int32) (20 : Int32)) fun r11 => if r11 ≠ 0 then (bnd1 (iter (fun s : Int32 × Int32 × Wd => M_X9_year_L24 v1 v2 s.1 s.2.1 s.2.2) FU ((0 : Int32), (0 : Int32), σ)) (un2 fun x3_24 sx_24 => (some (x3_24, sx_24)))) else (some ((-1 : Int32), σ)))
def M_X9_hold_L20 (v1 : Int32) (v2 : Int32) (σ : Wd) : Option ((Int32 × Wd) ⊕ (Wd)) :=
  if (770 : Int32) ≤ v2 then (some (.inr σ)) else (chk (ib v2 770) (chk (ib (((770 : Int32) * v1) + v2) 2310) (lt (uI σ 36 (ix (((770 : Int32) * v1) + v2)) (gI σ 25 (ix v2))) fun s_44 => lt (v2 + (1 : Int32)) fun v2_45 => some (.inl (v2_45, s_44)))))
def M_X9_hold (σ : Wd) (v1 : Int32) : Option (Int32 × Wd) :=
  bnd1 (M_X9_in v1 (0 : Int32) (2 : Int32)) fun r3 => if r3 ≠ 0 then (chk (ib v1 3) (lt (uI σ 35 (ix v1) (vp_nar .boolean (1 : Int32))) fun s_17 => bnd1 (iter (fun s : Int32 × Wd => M_X9_hold_L20 v1 s.1 s.2) FU ((0 : Int32), s_17)) (un1 fun sx_20 => (some ((1 : Int32), sx_20))))) else (some ((0 : Int32), σ))
def M_X9_restore_L22 (v1 : Int32) (v2 : Int32) (σ : Wd) : Option ((Int32 × Wd) ⊕ (Wd)) :=
  if (770 : Int32) ≤ v2 then (some (.inr σ)) else (chk (ib (((770 : Int32) * v1) + v2) 2310) (chk (ib v2 770) (lt (uI σ 25 (ix v2) (gI σ 36 (ix (((770 : Int32) * v1) + v2)))) fun s_46 => lt (v2 + (1 : Int32)) fun v2_47 => some (.inl (v2_47, s_46)))))
def M_X9_restore (σ : Wd) (v1 : Int32) : Option (Int32 × Wd) :=
  bnd1 (M_X9_in v1 (0 : Int32) (2 : Int32)) fun r3 => if r3 = 0 then (some ((0 : Int32), σ)) else (chk (ib v1 3) (if (gI σ 35 (ix v1)) ≠ 0 then (bnd1 (iter (fun s : Int32 × Wd => M_X9_restore_L22 v1 s.1 s.2) FU ((0 : Int32), σ)) (un1 fun sx_22 => (lt (uI sx_22 0 51 (0 : Int32)) fun s_55 => some ((1 : Int32), s_55)))) else (some ((0 : Int32), σ))))
def M_X9_sumCopies_L4 (σ : Wd) (v1 : Int32) (v2 : Int32) (v3 : Int32) : Option ((Int32 × Int32) ⊕ (Int32)) :=
  if (5 : Int32) ≤ v3 then (some (.inr v2)) else (bnd1 (M_X9_ofCopy σ v3 v1) fun r13 => lt (v2 + r13) fun v2_17 => lt (v3 + (1 : Int32)) fun v3_18 => some (.inl (v2_17, v3_18)))
def M_X9_sumCopies (σ : Wd) (v1 : Int32) : Option Int32 :=
  bnd1 (iter (fun s : Int32 × Int32 => M_X9_sumCopies_L4 σ v1 s.1 s.2) FU ((0 : Int32), (0 : Int32))) (un1 fun x2_4 => (some x2_4))
def M_X9_knownByAll_L5 (σ : Wd) (v1 : Int32) (v2 : Int32) : Option ((Int32 × Int32) ⊕ (Int32)) :=
  chk (ib (gI σ 0 18) 2) (if (gI σ 10 (ix (gI σ 0 18))) ≤ v2 then (some (.inr v1)) else (bnd1 (M_X9_ofCopy σ v2 (0 : Int32)) fun r21 => if v1 ≤ r21 then (lt (v2 + (1 : Int32)) fun v2_35 => some (.inl (v1, v2_35))) else (bnd1 (M_X9_ofCopy σ v2 (0 : Int32)) fun r31 => lt (v2 + (1 : Int32)) fun v2_35 => some (.inl (r31, v2_35)))))
def M_X9_knownByAll (σ : Wd) : Option Int32 :=
  bnd1 (iter (fun s : Int32 × Int32 => M_X9_knownByAll_L5 σ s.1 s.2) FU ((60 : Int32), (0 : Int32))) (un1 fun x1_5 => (some x1_5))
def M_X9_hadByAll_L19 (σ : Wd) (v1 : Int32) (v2 : Int32) (v3 : Int32) (v4 : Int32) : Option ((Int32 × Int32) ⊕ (Int32)) :=
  chk (ib (gI σ 0 18) 2) (if (gI σ 10 (ix (gI σ 0 18))) ≤ v4 then (some (.inr v3)) else (bnd1 (M_X9_doesHave σ v4 v2) fun r37 => if r37 ≠ 0 then (lt (v4 + (1 : Int32)) fun v4_45 => some (.inl (v3, v4_45))) else (lt (v4 + (1 : Int32)) fun v4_45 => some (.inl ((0 : Int32), v4_45)))))
def M_X9_hadByAll_L4 (σ : Wd) (v1 : Int32) (v2 : Int32) : Option ((Int32 × Int32) ⊕ (Int32)) :=
  chk (ib (0 : Int32) 770) (if (gI σ 26 (ix (0 : Int32))) ≤ v2 then (some (.inr v1)) else (bnd1 (iter (fun s : Int32 × Int32 => M_X9_hadByAll_L19 σ v1 v2 s.1 s.2) FU ((1 : Int32), (0 : Int32))) (un1 fun x3_19 => (if x3_19 = 0 then (lt (v2 + (1 : Int32)) fun v2_58 => some (.inl (v1, v2_58))) else (lt (v1 + (1 : Int32)) fun v1_55 => lt (v2 + (1 : Int32)) fun v2_58 => some (.inl (v1_55, v2_58)))))))
def M_X9_hadByAll (σ : Wd) : Option Int32 :=
  bnd1 (iter (fun s : Int32 × Int32 => M_X9_hadByAll_L4 σ s.1 s.2) FU ((0 : Int32), (0 : Int32))) (un1 fun x1_4 => (some x1_4))
def M_X9_count_J226 (σ : Wd) (t0 : Int32) (t1 : Int32) : Option (Int32 × Wd) :=
  some ((t1 + t0), σ)
def M_X9_count_J211 (σ : Wd) (t0 : Int32) (t1 : Int32) : Option (Int32 × Wd) :=
  chk (ib (2 : Int32) 3) (if (gI σ 35 (ix (2 : Int32))) = 0 then (M_X9_count_J226 σ (0 : Int32) (t1 + t0)) else (M_X9_count_J226 σ (1 : Int32) (t1 + t0)))
def M_X9_count_J197 (σ : Wd) (t0 : Int32) : Option (Int32 × Wd) :=
  chk (ib (1 : Int32) 3) (if (gI σ 35 (ix (1 : Int32))) = 0 then (M_X9_count_J211 σ (0 : Int32) t0) else (M_X9_count_J211 σ (1 : Int32) t0))
def M_X9_count_L252 (σ : Wd) (v2 : Int32) (v3 : Int32) : Option ((Int32 × Int32) ⊕ (Int32)) :=
  if (4 : Int32) ≤ v3 then (some (.inr v2)) else (chk (ib (((50 : Int32) + ((14 : Int32) * v3)) + (1 : Int32)) 770) (lt (v2 + (gI σ 26 (ix (((50 : Int32) + ((14 : Int32) * v3)) + (1 : Int32))))) fun v2_273 => lt (v3 + (1 : Int32)) fun v3_274 => some (.inl (v2_273, v3_274))))
def M_X9_count (σ : Wd) (v1 : Int32) : Option (Int32 × Wd) :=
  bnd1 (M_X9_copiesNow σ) fun s_1 => if v1 = (0 : Int32) then (chk (ib (gI s_1 0 18) 2) (some ((gI s_1 10 (ix (gI s_1 0 18))), s_1))) else (if v1 = (1 : Int32) then (chk (ib (gI s_1 0 18) 2) (some ((gI s_1 12 (ix (gI s_1 0 18))), s_1))) else (if v1 = (2 : Int32) then (chk (ib (gI s_1 0 18) 2) (some ((gI s_1 14 (ix (gI s_1 0 18))), s_1))) else (if v1 = (3 : Int32) then (chk (ib (0 : Int32) 770) (some ((gI s_1 26 (ix (0 : Int32))), s_1))) else (if v1 = (4 : Int32) then (chk (ib (1 : Int32) 770) (some ((gI s_1 26 (ix (1 : Int32))), s_1))) else (if v1 = (5 : Int32) then (chk (ib (2 : Int32) 770) (some ((gI s_1 26 (ix (2 : Int32))), s_1))) else (if v1 = (6 : Int32) then (chk (ib (3 : Int32) 770) (some ((gI s_1 26 (ix (3 : Int32))), s_1))) else (if v1 = (7 : Int32) then (bnd1 (M_X9_sumCopies s_1 (1 : Int32)) fun r156 => some (r156, s_1)) else (if v1 = (8 : Int32) then (some ((gI s_1 0 2), s_1)) else (if v1 = (9 : Int32) then (some ((gI s_1 0 51), s_1)) else (if v1 = (10 : Int32) then (bnd1 (M_X9_areAllAlike s_1) fun r171 => if r171 = 0 then (some ((0 : Int32), s_1)) else (some ((1 : Int32), s_1))) else (if v1 = (11 : Int32) then (chk (ib (0 : Int32) 3) (if (gI s_1 35 (ix (0 : Int32))) = 0 then (M_X9_count_J197 s_1 (0 : Int32)) else (M_X9_count_J197 s_1 (1 : Int32)))) else (if v1 = (12 : Int32) then (bnd1 (M_X9_sumCopies s_1 (3 : Int32)) fun r230 => some (r230, s_1)) else (if v1 = (13 : Int32) then (bnd1 (M_X9_sumCopies s_1 (4 : Int32)) fun r236 => some (r236, s_1)) else (if v1 = (14 : Int32) then (bnd1 (M_X9_knownByAll s_1) fun r241 => some (r241, s_1)) else (if v1 = (15 : Int32) then (bnd1 (M_X9_hadByAll s_1) fun r246 => some (r246, s_1)) else (if v1 = (16 : Int32) then (bnd1 (iter (fun s : Int32 × Int32 => M_X9_count_L252 s_1 s.1 s.2) FU ((0 : Int32), (0 : Int32))) (un1 fun x2_252 => (some (x2_252, s_1)))) else (if v1 = (17 : Int32) then (chk (ib (2 : Int32) 770) (bnd2 (M_X9_copy s_1 (gI s_1 26 (ix (2 : Int32))) (7 : Int32)) fun r291 s_291 => some (r291, s_291))) else (if v1 = (18 : Int32) then (chk (ib (2 : Int32) 770) (bnd2 (M_X9_copy s_1 (gI s_1 26 (ix (2 : Int32))) (8 : Int32)) fun r304 s_304 => some (r304, s_304))) else (some ((-1 : Int32), s_1))))))))))))))))))))
def sg9 : Wd := (fun i => if i = 0 then (fun k => if k = 17 then -1 else 0) else (fun _ => 0), fun _ _ => 0, fun _ _ => 0)
def Sp_0 (Rel : Wd → Wd → Prop) : Prop := ∀ (σ τ : Wd), Rel σ τ → ∀ a b c d e : Int32, ∃ (r : Int32) (σ' : Wd) (τ' : Wd), M_X8_feed σ a b c d e = some (r, σ') ∧ M_X9_feed τ a b c d e = some (r, τ') ∧ Rel σ' τ'
def Sp_1 (Rel : Wd → Wd → Prop) : Prop := ∀ (σ τ : Wd), Rel σ τ → ∀ a : Int32, ∃ (r : Int32) (σ' : Wd) (τ' : Wd), M_X8_back σ a = some (r, σ') ∧ M_X9_back τ a = some (r, τ') ∧ Rel σ' τ'
def Sp_2 (Rel : Wd → Wd → Prop) : Prop := ∀ (σ τ : Wd), Rel σ τ → ∃ (r : Int32) (σ' : Wd) (τ' : Wd), M_X8_read σ = some (r, σ') ∧ M_X9_read τ = some (r, τ') ∧ Rel σ' τ'
def Sp_4 (Rel : Wd → Wd → Prop) : Prop := ∀ (σ τ : Wd), Rel σ τ → ∀ a b c d : Int32, ∃ (r : Int32) (σ' : Wd) (τ' : Wd), M_X8_make σ a b c d = some (r, σ') ∧ M_X9_make τ a b c d = some (r, τ') ∧ Rel σ' τ'
def Sp_5 (Rel : Wd → Wd → Prop) : Prop := ∀ (σ τ : Wd), Rel σ τ → ∀ a b c : Int32, ∃ (r : Int32) (σ' : Wd) (τ' : Wd), M_X8_ask σ a b c = some (r, σ') ∧ M_X9_ask τ a b c = some (r, τ') ∧ Rel σ' τ'
def Sp_6 (Rel : Wd → Wd → Prop) : Prop := ∀ (σ τ : Wd), Rel σ τ → ∀ a : Int32, ∃ (r : Int32), M_X8_got σ a = some r ∧ M_X9_got τ a = some r ∧ Rel σ τ
def Sp_7 (Rel : Wd → Wd → Prop) : Prop := ∀ (σ τ : Wd), Rel σ τ → ∀ a b : Int32, ∃ (r : Int32) (σ' : Wd) (τ' : Wd), M_X8_promise σ a b = some (r, σ') ∧ M_X9_promise τ a b = some (r, τ') ∧ Rel σ' τ'
def Sp_8 (Rel : Wd → Wd → Prop) : Prop := ∀ (σ τ : Wd), Rel σ τ → ∀ a b : Int32, ∃ (r : Int32) (σ' : Wd) (τ' : Wd), M_X8_meet σ a b = some (r, σ') ∧ M_X9_meet τ a b = some (r, τ') ∧ Rel σ' τ'
def Sp_9 (Rel : Wd → Wd → Prop) : Prop := ∀ (σ τ : Wd), Rel σ τ → ∀ a : Int32, ∃ (r : Int32) (σ' : Wd) (τ' : Wd), M_X8_lead σ a = some (r, σ') ∧ M_X9_lead τ a = some (r, τ') ∧ Rel σ' τ'
def Sp_10 (Rel : Wd → Wd → Prop) : Prop := ∀ (σ τ : Wd), Rel σ τ → ∀ a : Int32, ∃ (r : Int32) (σ' : Wd) (τ' : Wd), M_X8_chance σ a = some (r, σ') ∧ M_X9_chance τ a = some (r, τ') ∧ Rel σ' τ'
def Sp_11 (Rel : Wd → Wd → Prop) : Prop := ∀ (σ τ : Wd), Rel σ τ → ∃ (r : Int32) (σ' : Wd) (τ' : Wd), M_X8_undo σ = some (r, σ') ∧ M_X9_undo τ = some (r, τ') ∧ Rel σ' τ'
def Sp_12 (Rel : Wd → Wd → Prop) : Prop := ∀ (σ τ : Wd), Rel σ τ → ∀ a b c : Int32, ∃ (r : Int32) (σ' : Wd) (τ' : Wd), M_X8_cell σ a b (bI c) = some (r, σ') ∧ M_X9_cell τ a b (bI c) = some (r, τ') ∧ Rel σ' τ'
def Sp_13 (Rel : Wd → Wd → Prop) : Prop := ∀ (σ τ : Wd), Rel σ τ → ∀ a b : Int32, ∃ (r : Int32) (σ' : Wd) (τ' : Wd), M_X8_log σ a b = some (r, σ') ∧ M_X9_log τ a b = some (r, τ') ∧ Rel σ' τ'
def Sp_14 (Rel : Wd → Wd → Prop) : Prop := ∀ (σ τ : Wd), Rel σ τ → ∀ a b : Int32, ∃ (r : Int32) (σ' : Wd) (τ' : Wd), M_X8_outcome σ a b = some (r, σ') ∧ M_X9_outcome τ a b = some (r, τ') ∧ Rel σ' τ'
def Sp_15 (Rel : Wd → Wd → Prop) : Prop := ∀ (σ τ : Wd), Rel σ τ → ∀ a b : Int32, ∃ (r : Int32) (τ' : Wd), M_X8_write σ a b = some r ∧ M_X9_write τ a b = some (r, τ') ∧ Rel σ τ'
def Sp_16 (Rel : Wd → Wd → Prop) : Prop := ∀ (σ τ : Wd), Rel σ τ → ∀ a : Int32, ∃ (r : Int32), M_X8_with σ a = some r ∧ M_X9_with τ a = some r ∧ Rel σ τ
def Sp_17 (Rel : Wd → Wd → Prop) : Prop := ∀ (σ τ : Wd), Rel σ τ → ∀ a b : Int32, ∃ (r : Int32) (σ' : Wd) (τ' : Wd), M_X8_copy σ a b = some (r, σ') ∧ M_X9_copy τ a b = some (r, τ') ∧ Rel σ' τ'
def Sp_18 (Rel : Wd → Wd → Prop) : Prop := ∀ (σ τ : Wd), Rel σ τ → ∀ a b : Int32, ∃ (r : Int32) (τ' : Wd), M_X8_vector σ a b = some r ∧ M_X9_vector τ a b = some (r, τ') ∧ Rel σ τ'
def Sp_19 (Rel : Wd → Wd → Prop) : Prop := ∀ (σ τ : Wd), Rel σ τ → ∀ a b : Int32, ∃ (r : Int32), M_X8_session σ a b = some r ∧ M_X9_session τ a b = some r ∧ Rel σ τ
def Sp_20 (Rel : Wd → Wd → Prop) : Prop := ∀ (σ τ : Wd), Rel σ τ → ∀ a b c : Int32, ∃ (r : Int32), M_X8_of σ a b (bI c) = some r ∧ M_X9_of τ a b (bI c) = some r ∧ Rel σ τ
def Sp_21 (Rel : Wd → Wd → Prop) : Prop := ∀ (σ τ : Wd), Rel σ τ → ∀ a : Int32, ∃ (r : Int32), M_X8_shut σ a = some r ∧ M_X9_shut τ a = some r ∧ Rel σ τ
def Sp_22 (Rel : Wd → Wd → Prop) : Prop := ∀ (σ τ : Wd), Rel σ τ → ∀ a b : Int32, ∃ (r : Int32) (τ' : Wd), M_X8_lacks σ a b = some r ∧ M_X9_lacks τ a b = some (r, τ') ∧ Rel σ τ'
def Sp_23 (Rel : Wd → Wd → Prop) : Prop := ∀ (σ τ : Wd), Rel σ τ → ∀ a b : Int32, ∃ (r : Int32) (σ' : Wd) (τ' : Wd), M_X8_would σ a b = some (r, σ') ∧ M_X9_would τ a b = some (r, τ') ∧ Rel σ' τ'
def Sp_24 (Rel : Wd → Wd → Prop) : Prop := ∀ (σ τ : Wd), Rel σ τ → ∀ a b : Int32, ∃ (r : Int32) (σ' : Wd) (τ' : Wd), M_X8_differ σ a b = some (r, σ') ∧ M_X9_differ τ a b = some (r, τ') ∧ Rel σ' τ'
def Sp_25 (Rel : Wd → Wd → Prop) : Prop := ∀ (σ τ : Wd), Rel σ τ → ∀ a b : Int32, ∃ (r : Int32) (τ' : Wd), M_X8_alike σ a b = some r ∧ M_X9_alike τ a b = some (r, τ') ∧ Rel σ τ'
def Sp_26 (Rel : Wd → Wd → Prop) : Prop := ∀ (σ τ : Wd), Rel σ τ → ∀ a b c : Int32, ∃ (r : Int32) (σ' : Wd) (τ' : Wd), M_X8_hangs σ a b c = some (r, σ') ∧ M_X9_hangs τ a b c = some (r, τ') ∧ Rel σ' τ'
def Sp_27 (Rel : Wd → Wd → Prop) : Prop := ∀ (σ τ : Wd), Rel σ τ → ∀ a b c : Int32, ∃ (r : Int32) (σ' : Wd) (τ' : Wd), M_X8_behind σ a b c = some (r, σ') ∧ M_X9_behind τ a b c = some (r, τ') ∧ Rel σ' τ'
def Sp_28 (Rel : Wd → Wd → Prop) : Prop := ∀ (σ τ : Wd), Rel σ τ → ∀ a b : Int32, ∃ (r : Int32) (σ' : Wd) (τ' : Wd), M_X8_fork σ a b = some (r, σ') ∧ M_X9_fork τ a b = some (r, τ') ∧ Rel σ' τ'
def Sp_29 (Rel : Wd → Wd → Prop) : Prop := ∀ (σ τ : Wd), Rel σ τ → ∀ a b : Int32, ∃ (r : Int32) (σ' : Wd) (τ' : Wd), M_X8_key σ a b = some (r, σ') ∧ M_X9_key τ a b = some (r, τ') ∧ Rel σ' τ'
def Sp_30 (Rel : Wd → Wd → Prop) : Prop := ∀ (σ τ : Wd), Rel σ τ → ∀ a : Int32, ∃ (r : Int32) (τ' : Wd), M_X8_share σ a = some r ∧ M_X9_share τ a = some (r, τ') ∧ Rel σ τ'
def Sp_31 (Rel : Wd → Wd → Prop) : Prop := ∀ (σ τ : Wd), Rel σ τ → ∀ a b : Int32, ∃ (r : Int32) (σ' : Wd) (τ' : Wd), M_X8_setter σ a b = some (r, σ') ∧ M_X9_setter τ a b = some (r, τ') ∧ Rel σ' τ'
def Sp_32 (Rel : Wd → Wd → Prop) : Prop := ∀ (σ τ : Wd), Rel σ τ → ∀ a b c : Int32, ∃ (r : Int32) (σ' : Wd) (τ' : Wd), M_X8_ahead σ a b c = some (r, σ') ∧ M_X9_ahead τ a b c = some (r, τ') ∧ Rel σ' τ'
def Sp_33 (Rel : Wd → Wd → Prop) : Prop := ∀ (σ τ : Wd), Rel σ τ → ∀ a b : Int32, ∃ (r : Int32) (τ' : Wd), M_X8_may σ a (bI b) = some r ∧ M_X9_may τ a (bI b) = some (r, τ') ∧ Rel σ τ'
def Sp_34 (Rel : Wd → Wd → Prop) : Prop := ∀ (σ τ : Wd), Rel σ τ → ∀ a : Int32, ∃ (r : Int32) (τ' : Wd), M_X8_plan σ a = some r ∧ M_X9_plan τ a = some (r, τ') ∧ Rel σ τ'
def Sp_35 (Rel : Wd → Wd → Prop) : Prop := ∀ (σ τ : Wd), Rel σ τ → ∀ a : Int32, ∃ (r : Int32) (σ' : Wd) (τ' : Wd), M_X8_clash σ a = some (r, σ') ∧ M_X9_clash τ a = some (r, τ') ∧ Rel σ' τ'
def Sp_36 (Rel : Wd → Wd → Prop) : Prop := ∀ (σ τ : Wd), Rel σ τ → ∃ (r : Int32) (σ' : Wd) (τ' : Wd), M_X8_soon σ = some (r, σ') ∧ M_X9_soon τ = some (r, τ') ∧ Rel σ' τ'
def Sp_37 (Rel : Wd → Wd → Prop) : Prop := ∀ (σ τ : Wd), Rel σ τ → ∀ a b : Int32, ∃ (r : Int32) (σ' : Wd) (τ' : Wd), M_X8_year σ a b = some (r, σ') ∧ M_X9_year τ a b = some (r, τ') ∧ Rel σ' τ'
def Sp_38 (Rel : Wd → Wd → Prop) : Prop := ∀ (σ τ : Wd), Rel σ τ → ∀ a : Int32, ∃ (r : Int32) (σ' : Wd) (τ' : Wd), M_X8_hold σ a = some (r, σ') ∧ M_X9_hold τ a = some (r, τ') ∧ Rel σ' τ'
def Sp_39 (Rel : Wd → Wd → Prop) : Prop := ∀ (σ τ : Wd), Rel σ τ → ∀ a : Int32, ∃ (r : Int32) (σ' : Wd) (τ' : Wd), M_X8_restore σ a = some (r, σ') ∧ M_X9_restore τ a = some (r, τ') ∧ Rel σ' τ'
def Sp_40 (Rel : Wd → Wd → Prop) : Prop := ∀ (σ τ : Wd), Rel σ τ → ∀ a : Int32, ∃ (r : Int32) (σ' : Wd) (τ' : Wd), M_X8_count σ a = some (r, σ') ∧ M_X9_count τ a = some (r, τ') ∧ Rel σ' τ'
