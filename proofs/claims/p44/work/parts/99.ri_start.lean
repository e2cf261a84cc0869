/-! the law from its entry -/
def R_law : String := "TentativeDeskLaw"
def lw_P (b : Addr) (xs : List Int32) (args : Array Value) (s : State) : Prop := args = #[.ref b] ∧ s.IntsAt b xs ∧ xs.length ≤ 260 ∧ (Jvm.Cond.and given_1 narrow_1).before args s = true
/-- what a walk over the start with the record d0 says of its end, said of the start itself -/
theorem lw_closed {s t : State} {o : Outcome} {d0 : Drawn} {L : List Loc} {k n : Nat} (hd0 : s.drawn.sameBut d0 lw_cs) (hv : ∃ v, o = .returned v) (hW : (s.setDrawn d0).WarmedH t.vm) (hs : (s.setDrawn d0).sameButNew ({ t with vm := s.vm } : State) L k n) : State.butDraws s t lw_cs (fun t1 => Framed s o t1 L k n) := by
  have h2 : t.drawn = d0 := congrArg State.drawn hs.1
  refine ⟨⟨hv, hW, State.sameButNew.setDrawn hs s.drawn⟩, ?_, by decide⟩
  rw [h2]
  exact hd0
def lw_Q (_ : Array Value) (s : State) (o : Outcome) (t : State) : Prop := o = .returned (some (.int 1)) ∧ State.butDraws s t lw_cs (fun t1 => Framed s o t1 [] room_1.cells room_1.slots)
def lw_Z (below : List Frame) (a : Array Value) (s : State) : State → Prop := fun t => ∃ o, t.status = .running ∧ Ended t below o ∧ lw_Q a s o t
/-- the law's own end, with 1 on the stack, nothing written that was there before, its room as the claim has it; d0: the record of draws at this point (at the entry s.drawn: begin with 'refine W.base ?_' and 'have hd0 := Drawn.sameBut.refl s.drawn lw_cs') -/
theorem lw_ret {p : Program} {l : Launch} {e : Env} {s : State} {m : MethodId} {below : List Frame} {meth : Method} {c : Code} {b : Nat} {d0 : Drawn} (hd0 : s.drawn.sameBut d0 lw_cs) (hx : p.tables.exec = Jvm.exec) (hb : c.code = code) (hr : meth.sig.returnType = ret) (hlocks : meth.locks = false) {pc : Nat} {H : Heap} {ls : Array Slot} (hdg : decode code pc = .ok (.ireturn, 1)) : W p l e room_1 (s.setDrawn d0) m #[Value.ref b] below meth c H [] room_1.cells room_1.slots (lw_Z below #[Value.ref b] s) (F0 m pc ls [.int 1]) := by
  intro T hT X
  obtain ⟨fs, hret, hrun, hended, hW, hframe⟩ := X.leave (v := some (.int 1)) (hlocks := hlocks) (fun h => by rw [hr] at h; cases h)
  have hmeth' : T.vm.method? m = some meth := X.method'
  refine ⟨T.setFrames fs, ?_, .returned (some (.int 1)), hrun, hended, rfl, lw_closed hd0 ⟨_, rfl⟩ hW hframe⟩
  jvm_step X.here [X.here.top, hx, hb, hdg, hmeth', hr, ret, narrow_b1]
  (try refine ⟨rfl, ?_⟩); (try refine ⟨rfl, ?_⟩)
  first | (intro acts; rw [hret _ acts rfl rfl rfl]) | rw [hret _ _ rfl rfl rfl]
  exact Steps.refl _
/-- what holds at the law's entry: the machine, the code, the tables' words (any of lw_tbl by 'hts w (by decide +kernel)'), the script of L ints xs at the cell b, what the Statement gives of the start (any of its parts by flat_of_before) -/
def lw_At (p : Program) (s : State) (m : MethodId) (meth : Method) (c : Code) (b L : Nat) (xs : Nat → Int32) : Prop :=
  p.tables.exec = Jvm.exec ∧ c.code = code ∧ meth.sig.returnType = ret ∧ c.maxLocals = 30 ∧ s.vm.findClass R_law = some m.cls ∧ (∀ w ∈ lw_tbl, w.before #[Value.ref b] s = true) ∧ va_X b L xs s s.heap ∧ b < s.heap.size ∧ meth.locks = false ∧ (Jvm.Cond.and given_1 narrow_1).before #[Value.ref b] s = true
theorem tw_58 : Cond.classLink RL 8 RX8 ∈ gw_tbl := gw_mem 58 (by decide +kernel) (by decide +kernel)
theorem tw_59 : Cond.instantiable RX8 13 ∈ gw_tbl := gw_mem 59 (by decide +kernel) (by decide +kernel)
theorem tw_60 : Cond.methodLink RL 202 yX8_init ∈ gw_tbl := gw_mem 60 (by decide +kernel) (by decide +kernel)
theorem tw_61 : Cond.instanceMethod yX8_init ∈ gw_tbl := gw_mem 61 (by decide +kernel) (by decide +kernel)
theorem tw_397 : Cond.methodLink RL 207 yX8_read ∈ gw_tbl := gw_mem 397 (by decide +kernel) (by decide +kernel)
theorem tw_1153 : Cond.methodLink RL 203 yL_told ∈ gw_tbl := gw_mem 1153 (by decide +kernel) (by decide +kernel)
theorem tw_1313 : Cond.methodLink RL 211 yL_same ∈ gw_tbl := gw_mem 1313 (by decide +kernel) (by decide +kernel)
theorem n_know {K : Kt} {D : va_G} {A : Nat → Prop} {ws : va_W} {ce sl pc : Nat} {L : List (Nat × Value)} {st : List Value} (k : va_D A ws → Gn K D A ws ce sl pc L st) : Gn K D A ws ce sl pc L st := by
  obtain ⟨p, l, e, R, s, m, args, below, meth, c, nL, Q, ce0, sl0⟩ := K
  intro H locs ls hP hD hS hl
  exact k hD H locs ls hP hD hS hl
set_option maxRecDepth 100000 in
set_option maxHeartbeats 4000000 in
theorem law_words {s : State} {b : Nat} (hts : ∀ w ∈ lw_tbl, w.before #[Value.ref b] s = true) : ∃ (D : va_G) (cy : Nat → ClassId), va_K D vwCl (T6 cy) s ∧ NW s := by
  have htg : ∀ w ∈ gw_tbl, w.before #[Value.ref b] s = true := fun w h => hts w (List.mem_filter.mp h).1
  obtain ⟨c0, iS0, k0⟩ := u_known (C := RX0) (T := TX0) (N := 4) (n := 4) htg in_X0 (htg _ tw_277)
  obtain ⟨c1, iS1, k1⟩ := u_known (C := RX1) (T := TX1) (N := 8) (n := 8) htg in_X1 (htg _ tw_211)
  obtain ⟨c2, iS2, k2⟩ := u_known (C := RX2) (T := TX2) (N := 3) (n := 3) htg in_X2 (htg _ tw_251)
  obtain ⟨c3, iS3, k3⟩ := u_known (C := RX3) (T := TX3) (N := 11) (n := 11) htg in_X3 (htg _ tw_145)
  obtain ⟨c4, iS4, k4⟩ := u_known (C := RX4) (T := TX4) (N := 9) (n := 9) htg in_X4 (htg _ tw_271)
  obtain ⟨c5, iS5, k5⟩ := u_known (C := RX5) (T := TX5) (N := 6) (n := 6) htg in_X5 (htg _ tw_329)
  obtain ⟨c6, iS6, k6⟩ := u_known (C := RX6) (T := TX6) (N := 6) (n := 6) htg in_X6 (htg _ tw_151)
  obtain ⟨c7, iS7, k7⟩ := u_known (C := RX7) (T := TX7) (N := 14) (n := 14) htg in_X7 (htg _ tw_67)
  obtain ⟨c8, iS8, k8⟩ := u_known (C := RX8) (T := TX8) (N := 13) (n := 13) htg in_X8 (htg _ tw_59)
  obtain ⟨c9, iS9, k9⟩ := u_known (C := RN9) (T := TN9) (N := 24) (n := 24) htg in_N9 (htg _ tw_1157)
  obtain ⟨a0, ka0, co0, f0, g0, e0⟩ := Cond.arrayClass_spec (htg _ tw_141)
  obtain ⟨a1, ka1, co1, f1, g1, e1⟩ := Cond.arrayClass_spec (htg _ tw_142)
  obtain ⟨a2, ka2, co2, f2, g2, e2⟩ := Cond.arrayClass_spec (htg _ tw_175)
  obtain ⟨a3, ka3, co3, f3, g3, e3⟩ := Cond.arrayClass_spec (htg _ tw_143)
  have hao : (Cond.arrayOver (.object "TentativeDesk$Going")).before #[Value.ref b] s = true := (hts _ (List.mem_of_getElem? (i := 269) (by decide +kernel)))
  obtain ⟨co4, a4, ka4, p1, p2, p3, p4, p5⟩ := Cond.arrayOver_spec hao
  have hao5 : (Cond.arrayOver (.array .long)).before #[Value.ref b] s = true := (hts _ (List.mem_of_getElem? (i := 257) (by decide +kernel)))
  obtain ⟨co5, a5, ka5, r15, r25, r35, r45, r55⟩ := arrayOverA_spec hao5
  have hao6 : (Cond.arrayOver (.array .int)).before #[Value.ref b] s = true := (hts _ (List.mem_of_getElem? (i := 1165) (by decide +kernel)))
  obtain ⟨co6, a6, ka6, r16, r26, r36, r46, r56⟩ := arrayOverA_spec hao6
  have hao7 : (Cond.arrayOver (.array (.array .int))).before #[Value.ref b] s = true := (hts _ (List.mem_of_getElem? (i := 1163) (by decide +kernel)))
  obtain ⟨co7, a7, ka7, r17, r27, r37, r47, r57⟩ := arrayOverA_spec hao7
  have hao8 : (Cond.arrayOver (.array .boolean)).before #[Value.ref b] s = true := (hts _ (List.mem_of_getElem? (i := 1167) (by decide +kernel)))
  obtain ⟨co8, a8, ka8, r18, r28, r38, r48, r58⟩ := arrayOverA_spec hao8
  refine ⟨(fun k => [c0, c1, c2, c3, c4, c5, c6, c7, c8, c9].getD k c0, fun k => [iS0, iS1, iS2, iS3, iS4, iS5, iS6, iS7, iS8, iS9].getD k iS0), fun k => [a0, a1, a2, a3, a4, a5, a6, a7, a8].getD k a0, ⟨?_, ?_⟩, ?_, ?_, ?_, ?_, ?_, ?_⟩
  · intro k q hq
    match k, hq with
    | 0, hq => cases hq; exact k0
    | 1, hq => cases hq; exact k1
    | 2, hq => cases hq; exact k2
    | 3, hq => cases hq; exact k3
    | 4, hq => cases hq; exact k4
    | 5, hq => cases hq; exact k5
    | 6, hq => cases hq; exact k6
    | 7, hq => cases hq; exact k7
    | 8, hq => cases hq; exact k8
    | 9, hq => cases hq; exact k9
    | k + 10, hq => simp [vwCl] at hq
  · intro k q hq
    match k, hq with
    | 0, hq => cases hq; exact ⟨fun n z => ⟨fun k h => (by cases h), ka0, g0, co0, e0⟩, f0⟩
    | 1, hq => cases hq; exact ⟨fun n z => ⟨fun k h => (by cases h), ka1, g1, co1, e1⟩, f1⟩
    | 2, hq => cases hq; exact ⟨fun n z => ⟨fun k h => (by cases h), ka2, g2, co2, e2⟩, f2⟩
    | 3, hq => cases hq; exact ⟨fun n z => ⟨fun k h => (by cases h), ka3, g3, co3, e3⟩, f3⟩
    | 4, hq => cases hq; exact ⟨fun n z => ⟨fun k h => (by cases h), ka4, p3, co4, p4⟩, ka4, co4, p3, p4, p1, p5⟩
    | 5, hq => cases hq; exact ⟨fun n z => ⟨fun k h => (by cases h), ka5, r35, co5, r45⟩, r55⟩
    | 6, hq => cases hq; exact ⟨fun n z => ⟨fun k h => (by cases h), ka6, r36, co6, r46⟩, r56⟩
    | 7, hq => cases hq; exact ⟨fun n z => ⟨fun k h => (by cases h), ka7, r37, co7, r47⟩, r57⟩
    | 8, hq => cases hq; exact ⟨fun n z => ⟨fun k h => (by cases h), ka8, r38, co8, r48⟩, r58⟩
    | k + 9, hq => simp [T6] at hq
  · intro w hw
    simp only [NWl, List.mem_cons, List.not_mem_nil, or_false] at hw
    rcases hw with rfl | rfl | rfl | rfl | rfl | rfl | rfl | rfl | rfl | rfl | rfl | rfl | rfl | rfl | rfl | rfl | rfl | rfl | rfl | rfl | rfl | rfl | rfl | rfl | rfl | rfl | rfl | rfl | rfl
    · exact va_Nw.of rfl (hts _ (List.mem_of_getElem? (i := 152) (by decide +kernel)))
    · exact va_Nw.of rfl (hts _ (List.mem_of_getElem? (i := 212) (by decide +kernel)))
    · exact va_Nw.of rfl (hts _ (List.mem_of_getElem? (i := 252) (by decide +kernel)))
    · exact va_Nw.of rfl (hts _ (List.mem_of_getElem? (i := 272) (by decide +kernel)))
    · exact va_Nw.of rfl (hts _ (List.mem_of_getElem? (i := 278) (by decide +kernel)))
    · exact va_Nw.of rfl (hts _ (List.mem_of_getElem? (i := 330) (by decide +kernel)))
    · exact va_Nw.of rfl (hts _ (List.mem_of_getElem? (i := 1158) (by decide +kernel)))
    · exact va_Nw.of rfl (hts _ (List.mem_of_getElem? (i := 1169) (by decide +kernel)))
    · exact va_Nw.of rfl (hts _ (List.mem_of_getElem? (i := 1170) (by decide +kernel)))
    · exact va_Nw.of rfl (hts _ (List.mem_of_getElem? (i := 1172) (by decide +kernel)))
    · exact va_Nw.of rfl (hts _ (List.mem_of_getElem? (i := 1173) (by decide +kernel)))
    · exact va_Nw.of rfl (hts _ (List.mem_of_getElem? (i := 1175) (by decide +kernel)))
    · exact va_Nw.of rfl (hts _ (List.mem_of_getElem? (i := 1176) (by decide +kernel)))
    · exact va_Nw.of rfl (hts _ (List.mem_of_getElem? (i := 1177) (by decide +kernel)))
    · exact va_Nw.of rfl (hts _ (List.mem_of_getElem? (i := 1178) (by decide +kernel)))
    · exact va_Nw.of rfl (hts _ (List.mem_of_getElem? (i := 1180) (by decide +kernel)))
    · exact va_Nw.of rfl (hts _ (List.mem_of_getElem? (i := 1182) (by decide +kernel)))
    · exact va_Nw.of rfl (hts _ (List.mem_of_getElem? (i := 1184) (by decide +kernel)))
    · exact va_Nw.of rfl (hts _ (List.mem_of_getElem? (i := 1187) (by decide +kernel)))
    · exact va_Nw.of rfl (hts _ (List.mem_of_getElem? (i := 1189) (by decide +kernel)))
    · exact va_Nw.of rfl (hts _ (List.mem_of_getElem? (i := 1191) (by decide +kernel)))
    · exact va_Nw.of rfl (hts _ (List.mem_of_getElem? (i := 1193) (by decide +kernel)))
    · exact va_Nw.of rfl (hts _ (List.mem_of_getElem? (i := 1195) (by decide +kernel)))
    · exact va_Nw.of rfl (hts _ (List.mem_of_getElem? (i := 1197) (by decide +kernel)))
    · exact va_Nw.of rfl (hts _ (List.mem_of_getElem? (i := 1199) (by decide +kernel)))
    · exact va_Nw.of rfl (hts _ (List.mem_of_getElem? (i := 1201) (by decide +kernel)))
    · exact va_Nw.of rfl (hts _ (List.mem_of_getElem? (i := 1203) (by decide +kernel)))
    · exact va_Nw.of rfl (hts _ (List.mem_of_getElem? (i := 1205) (by decide +kernel)))
    · exact va_Nw.of rfl (hts _ (List.mem_of_getElem? (i := 1207) (by decide +kernel)))
  · exact va_AO.of hao
  · exact hao5
  · exact hao6
  · exact hao7
  · exact hao8
set_option maxRecDepth 100000 in
set_option maxHeartbeats 4000000 in
theorem law_zx {s : State} {b : Nat} (hts : ∀ w ∈ lw_tbl, w.before #[Value.ref b] s = true) (hgv : (Jvm.Cond.and given_1 narrow_1).before #[Value.ref b] s = true) : ∃ ax : Nat → Nat, zx0 ax (fun q => s.heap.size ≤ q) s := by
  have hfl := flat_of_before _ hgv
  have hA : ∀ a : Nat, a < s.heap.size → ¬ (fun q => s.heap.size ≤ q) a := fun a h => Nat.not_le.mpr h
  obtain ⟨adK, adV, hS1, hS2⟩ := vk_Sof (args := #[Value.ref b]) (N := 1) (tm := fun _ => (.string "TentativeDesk$Tokens" 56)) (len := [9]) (byt := [sgB]) (A := fun q => s.heap.size ≤ q) (fun i hi => by rcases (show i = 0 by omega) with rfl; decide) (fun i hi => hfl _ (by decide +kernel)) (fun i hi => hfl _ (by decide +kernel)) (fun i hi => hfl _ (by decide +kernel)) (fun i hi => by rcases (show i = 0 by omega) with rfl; exact hfl _ (by decide +kernel)) (fun i hi j hj => by
      rcases (show i = 0 by omega) with rfl
      rcases (show j = 0 ∨ j = 1 ∨ j = 2 ∨ j = 3 ∨ j = 4 ∨ j = 5 ∨ j = 6 ∨ j = 7 ∨ j = 8 by have : j < 9 := hj; omega) with rfl | rfl | rfl | rfl | rfl | rfl | rfl | rfl | rfl <;> exact hfl _ (by decide +kernel)) (fun i j hi hj hne => absurd (by omega) hne) hA
  obtain ⟨t, ht, hT⟩ := va_Tof (args := #[Value.ref b]) (tm := (.static "TentativeDesk$Tokens" "WORDS" "[J")) (ty := .long) (N := 11) (f := fun j => .long (wdF j)) (A := fun q => s.heap.size ≤ q) (by decide) (hfl _ (by decide +kernel)) (va_eqt (hfl _ (by decide +kernel))) (fun j hj => by
      rcases (show j = 0 ∨ j = 1 ∨ j = 2 ∨ j = 3 ∨ j = 4 ∨ j = 5 ∨ j = 6 ∨ j = 7 ∨ j = 8 ∨ j = 9 ∨ j = 10 by omega) with rfl | rfl | rfl | rfl | rfl | rfl | rfl | rfl | rfl | rfl | rfl <;> exact va_eqtl (hfl _ (by decide +kernel))) hA
  refine ⟨fun k => if k = 0 then adK 0 else if k = 1 then adV 0 else t, ?_, ?_, ?_, ?_, hT⟩
  · exact vk_R.of (hts _ (List.mem_of_getElem? (i := 440) (by decide +kernel))) (hS2 0 (by decide))
  · refine ⟨fun i hi => ?_, fun i j hi hj _ => by omega⟩
    rcases (show i = 0 by omega) with rfl
    exact hS1.1 0 (by decide)
  · exact va_Zof (hts _ (List.mem_of_getElem? (i := 454) (by decide +kernel))) (hts _ (List.mem_of_getElem? (i := 50) (by decide +kernel))) (va_eqi (hfl _ (by decide +kernel))) hA
  · exact va_Zref (hts _ (List.mem_of_getElem? (i := 432) (by decide +kernel))) (hts _ (List.mem_of_getElem? (i := 42) (by decide +kernel))) ht hA
theorem g_slen {K : Kt} {D : va_G} {cy : Nat → ClassId} {cc : ByteArray} {own : String} {A : Nat → Prop} {fr lo mc ms ce sl : Nat} {ws : va_W} {L : List (Nat × Value)} {rest : List Value} {b LL : Nat} {xs : Nat → Int32} (C : Nx K D cy cc own A fr lo mc ms) (hX : va_X b LL xs (Ks K) (Ks K).heap) (hbl : b < (Ks K).heap.size) (hAb : ¬ A b) (pc : Nat) (d : decode cc pc = .ok (.arraylength, 1)) (k : Gn K D A ws ce sl (pc + 1) L (.int (Int32.ofNat LL) :: rest)) : Gn K D A ws ce sl pc L (.ref b :: rest) := by
  obtain ⟨p, l, e, R, s, m, args, below, meth, c, nL, Q, ce0, sl0⟩ := K
  obtain ⟨hx, hb, hml, hown, hts, hK, hlk, hfr, hlo, hmc, hms, hA, hN⟩ := C
  intro H locs ls hP hD hS hl
  exact va_slen hx hb hX hbl hAb hS d (k H locs ls hP hD hS hl)
theorem g_sld {K : Kt} {D : va_G} {cy : Nat → ClassId} {cc : ByteArray} {own : String} {A : Nat → Prop} {fr lo mc ms ce sl : Nat} {ws : va_W} {L : List (Nat × Value)} {rest : List Value} {b LL : Nat} {xs : Nat → Int32} (C : Nx K D cy cc own A fr lo mc ms) (hX : va_X b LL xs (Ks K) (Ks K).heap) (hbl : b < (Ks K).heap.size) (hAb : ¬ A b) (pc : Nat) (j : Nat) (hj : j < LL) (hL : LL ≤ 3072) (d : decode cc pc = .ok (.iaload, 1)) (k : Gn K D A ws ce sl (pc + 1) L (.int (xs j) :: rest)) : Gn K D A ws ce sl pc L (.int (nI j) :: .ref b :: rest) := by
  obtain ⟨p, l, e, R, s, m, args, below, meth, c, nL, Q, ce0, sl0⟩ := K
  obtain ⟨hx, hb, hml, hown, hts, hK, hlk, hfr, hlo, hmc, hms, hA, hN⟩ := C
  intro H locs ls hP hD hS hl
  have hc : (nI j).toNatClampNeg = j := nI_clamp (by omega)
  have hk := k H locs ls hP hD hS hl
  exact va_sld hx hb hX hbl hAb hS (vp_in_nI hj (by omega)) d (by rw [hc]; exact hk)
/-- the script as the law copies it -/
def scF (xs : Nat → Int32) : Nat → Nat → Int32
  | 0 => fun _ => 0
  | i + 1 => upd (scF xs i) (ix (nI i)) (xs i)
def smF (X : Nat → Int32) : Nat → Nat → Int32
  | 0 => fun _ => 0
  | i + 1 => upd (smF X i) (ix (nI i)) (X (ix ((2 : Int32) + nI i)))
/-- the Net's ints as told -/
def ivT (p q : Int32) : Nat → Int32
  | 0 => tdCop q
  | 1 => tdCel p
  | 2 => tdFor p q
  | 3 => tdSeed p
  | 6 => tdPri p q
  | _ => 0
/-- the law's cells beside the class's world -/
def qL (X : Nat → Int32) (G : Nat → Nat → Option Nat) (u : Nat → Nat) : Lq := (ix (tdFor (X 0) (X 1)), X, ivT (X 0) (X 1), tdFs (X 1) (ix (tdCel (X 0))), fun f => hwF (smF X 8 f) (tdCel (X 0)), G, u)
/-- what is wanted of the programs: told, read, what is answered at first, and the law from there on -/
def LawP (X : Nat → Int32) : Prop := ∃ (σ1 σ2 σ3 : Wd) (R : Wd → Prop) (n nc : Nat), M_X1_begin sg8 3 0 = some σ1 ∧ M_L_told (smF X 8) (X 0) (X 1) σ1 = some σ2 ∧ M_X8_read σ2 = some (0, σ3) ∧ (1 ≤ n ∧ n ≤ 5 ∧ nc ≤ 4 ∧ tdCop (X 1) = nI n ∧ tdCel (X 0) = nI nc ∧ ∃ nf, tdFor (X 0) (X 1) = nI nf ∧ nf ≤ 4) ∧ R σ3 ∧ SameF R n nc (ivT (X 0) (X 1)) (tdFs (X 1) (ix (tdCel (X 0)))) ∧ ∀ σ4, R σ4 → ∀ G u, ∃ σ5, M_L_law (qL X G u) σ4 1 = some (1, σ5)
theorem FcOk.all {cy : Nat → ClassId} {hw : Nat → Nat → Int32} {g : Nat → Option Nat} : ∀ (n : Nat) (fc : va_W), FcOk cy hw n fc g → fc.length = 2 * n ∧ ∃ (av ah : Nat → Nat) (G : Nat → Nat → Option Nat), ∀ f, f < n → g f = some (av f) ∧ G f 0 = some (ah f) ∧ fc[2 * f]? = some (ah f, .inl (cy 1, 3, .inl (hw f))) ∧ fc[2 * f + 1]? = some (av f, .inl (cy 6, 5, .inr (.inr (.inr (.inr (G f))))))
  | 0, fc, h => by
    cases h
    exact ⟨rfl, fun _ => 0, fun _ => 0, fun _ _ => none, fun f hf => absurd hf (by omega)⟩
  | n + 1, fc, ⟨fc0, ah0, av0, h5, e, h1, h2, h3⟩ => by
    obtain ⟨hl, av, ah, G, h⟩ := FcOk.all n fc0 h3
    subst e
    refine ⟨by simp only [List.length_append, hl, List.length_cons, List.length_nil]; omega, fun f => if f = n then av0 else av f, fun f => if f = n then ah0 else ah f, fun f => if f = n then h5 else G f, fun f hf => ?_⟩
    by_cases hfn : f = n
    · subst hfn
      simp only [if_pos]
      refine ⟨h1, h2, ?_, ?_⟩
      · rw [List.getElem?_append_right (by omega), hl, Nat.sub_self]
        rfl
      · rw [List.getElem?_append_right (by omega), hl, Nat.add_sub_cancel_left]
        rfl
    · simp only [if_neg hfn]
      obtain ⟨k1, k2, k3, k4⟩ := h f (by omega)
      refine ⟨k1, k2, ?_, ?_⟩
      · rw [List.getElem?_append_left (by omega)]
        exact k3
      · rw [List.getElem?_append_left (by omega)]
        exact k4
/-- cells beside the class's world make up the law's zone -/
theorem zl_of {V : Ct_V} {A : Nat → Nat} {q : Lq} {σ : Wd} {B : Nat → Prop} {wl : va_W} {pl : Nat → Nat} (hD : va_D B (zW (Zc V) σ ++ wl)) (hat : ∀ i, i < 4 + 2 * lM q → wl[pl i]? = some (A i, e2 A q V.2.2.1 i)) (hinj : ∀ i j, i < 4 + 2 * lM q → j < 4 + 2 * lM q → pl i = pl j → i = j) : zI (Zl V A q) ∧ (∀ a, zS (Zl V A q) a → B a) ∧ ∀ H, va_P V.1 vwCl (zW (Zc V) σ ++ wl) H → va_P V.1 vwCl (zW (Zl V A q) σ) H := by
  have key : ∀ i, i < 131 + 2 * lM q → (zW (Zc V) σ ++ wl)[if i < 127 then i else 127 + pl (i - 127)]? = some (zA (Zl V A q) i, zY (Zl V A q) i σ) := by
    intro i hi
    by_cases h : i < 127
    · rw [if_pos h, List.getElem?_append_left (by rw [zw_len]; exact h), zW_at (show i < zN (Zc V) from h)]
      congr 1
      show (V.2.1 i, (cellsC V.2.1 V.2.2.1).getD i (fun _ _ _ => .inr (0, [])) (σ.1 i) (σ.2.1 i) (σ.2.2 i)) = (adL V A i, (if i < 127 then (cellsC V.2.1 V.2.2.1).getD i (fun _ _ _ => .inr (0, [])) else fun _ _ _ => e2 A q V.2.2.1 (i - 127)) (σ.1 i) (σ.2.1 i) (σ.2.2 i))
      unfold adL
      rw [if_pos h, if_pos h]
    · rw [if_neg h]
      have h1 := zwa (V := V) (σ := σ) (hat (i - 127) (by omega))
      rw [h1]
      congr 1
      show _ = (adL V A i, (if i < 127 then (cellsC V.2.1 V.2.2.1).getD i (fun _ _ _ => .inr (0, [])) else fun _ _ _ => e2 A q V.2.2.1 (i - 127)) (σ.1 i) (σ.2.1 i) (σ.2.2 i))
      unfold adL
      rw [if_neg h, if_neg h]
  refine ⟨fun i j hi hj e => ?_, ?_, fun H hP k x hx => ?_⟩
  · have hi : i < 131 + 2 * lM q := hi
    have hj : j < 131 + 2 * lM q := hj
    have h := hD.1 _ _ _ _ (key i hi) (key j hj) e
    by_cases h1 : i < 127 <;> by_cases h2 : j < 127
    · rw [if_pos h1, if_pos h2] at h; exact h
    · rw [if_pos h1, if_neg h2] at h; omega
    · rw [if_neg h1, if_pos h2] at h; omega
    · rw [if_neg h1, if_neg h2] at h
      have := hinj (i - 127) (j - 127) (by omega) (by omega) (by omega)
      omega
  · rintro a ⟨i, hi, rfl⟩
    exact hD.2 _ _ (key i hi)
  · have hk : k < 131 + 2 * lM q := by
      have := (List.getElem?_eq_some_iff.mp hx).1
      simpa [zW, Zl, zN] using this
    rw [zW_at (show k < zN (Zl V A q) from hk)] at hx
    cases hx
    exact hP _ _ (key k hk)
/-- of the class's world among cells -/
theorem zc_of {V : Ct_V} {σ : Wd} {B : Nat → Prop} {wl : va_W} (hD : va_D B (zW (Zc V) σ ++ wl)) : zI (Zc V) ∧ ∀ a, zS (Zc V) a → B a := by
  have h1 : ∀ i, i < 127 → (zW (Zc V) σ ++ wl)[i]? = some (zA (Zc V) i, zY (Zc V) i σ) := fun i hi => by rw [List.getElem?_append_left (by rw [zw_len]; exact hi)]; exact zW_at hi
  refine ⟨fun i j hi hj e => hD.1 i j _ _ (h1 i hi) (h1 j hj) e, ?_⟩
  rintro a ⟨i, hi, rfl⟩
  exact hD.2 i _ (h1 i hi)
set_option maxRecDepth 100000 in
set_option maxHeartbeats 4000000 in
theorem law_end {p : Program} {e : Env} {s : State} {m : MethodId} {below : List Frame} {meth : Method} {c : Code} (l : Launch) {b LL : Nat} {xs : Nat → Int32} {V : Ct_V} {σ4 σ5 : Wd} {X : Nat → Int32} {sa so z nf : Nat} {u : Nat → Nat} {g : Nat → Option Nat} {fc : va_W} {G : Nat → Nat → Option Nat} {av ah : Nat → Nat} (C0 : lw_At p s m meth c b LL xs) (C : Nx (p, l, e, room_1, s, m, #[Value.ref b], below, meth, c, 30, lw_Z below #[Value.ref b] s, 0, 0) V.1 V.2.2.1 cL_law RL (fun q => s.heap.size ≤ q) 13 504 room_1.cells room_1.slots) (hzx : zx0 V.2.2.2 (fun q => s.heap.size ≤ q) s) (hnf : tdFor (X 0) (X 1) = nI nf) (hnf4 : nf ≤ 4) (hfl : fc.length = 2 * nf) (hfc : ∀ f, f < nf → g f = some (av f) ∧ G f 0 = some (ah f) ∧ fc[2 * f]? = some (ah f, .inl (V.2.2.1 1, 3, .inl (hwF (smF X 8 f) (tdCel (X 0))))) ∧ fc[2 * f + 1]? = some (av f, .inl (V.2.2.1 6, 5, .inr (.inr (.inr (.inr (G f))))))) (hgn : ∀ i, nf ≤ i → g i = none) (h : M_L_law (qL X G u) σ4 1 = some (1, σ5)) {ce sl : Nat} (hce : ce ≤ room_1.cells) (hsl : sl ≤ room_1.slots) {L : List (Nat × Value)} (ks : List Nat) (hL : lv_pick L ks = [(1, .ref sa), (3, .ref (zA (Zc V) 0)), (4, .ref z), (5, .int 1)]) : Gn (p, l, e, room_1, s, m, #[Value.ref b], below, meth, c, 30, lw_Z below #[Value.ref b] s, 0, 0) V.1 (fun q => s.heap.size ≤ q) (zW (Zc V) σ4 ++ ((netT V.2.2.1 z u (X 0) (X 1) (ix (tdCel (X 0))) g ++ ([(sa, .inl (V.2.2.1 1, 44, .inl X)), (so, .inl (V.2.2.1 1, 8, .inl (smF X 8)))] ++ fc)) ++ [])) ce sl 102 L [] := by
  obtain ⟨hx, hb, hr, hml, hown, hts, hX, hbl, hlocks, hgv⟩ := id C0
  obtain ⟨-, -, -, -, htg, hK, -, -, -, -, -, -, hNW⟩ := id C
  rw [List.append_nil]
  intro H locs ls hP hD hS hl
  let A : Nat → Nat := fun i => if i = 0 then sa else if i = 1 then z else if i = 2 then u 8 else if i = 3 then u 9 else if i % 2 = 0 then av ((i - 4) / 2) else ah ((i - 5) / 2)
  have hq1 : ix (tdFor (X 0) (X 1)) = nf := by rw [hnf, ix_nI (by omega)]
  have hM : lM (qL X G u) = nf := by show min (ix (tdFor (X 0) (X 1))) 4 = nf; rw [hq1]; omega
  have hA0 : A 0 = sa := rfl
  have hA1 : A 1 = z := rfl
  have hA2 : A 2 = u 8 := rfl
  have hA3 : A 3 = u 9 := rfl
  have hAe : ∀ f, A (4 + 2 * f) = av f := fun f => by
    show (if 4 + 2 * f = 0 then sa else if 4 + 2 * f = 1 then z else if 4 + 2 * f = 2 then u 8 else if 4 + 2 * f = 3 then u 9 else if (4 + 2 * f) % 2 = 0 then av ((4 + 2 * f - 4) / 2) else ah ((4 + 2 * f - 5) / 2)) = av f
    rw [if_neg (by omega), if_neg (by omega), if_neg (by omega), if_neg (by omega), if_pos (by omega), show (4 + 2 * f - 4) / 2 = f by omega]
  have hAo : ∀ f, A (5 + 2 * f) = ah f := fun f => by
    show (if 5 + 2 * f = 0 then sa else if 5 + 2 * f = 1 then z else if 5 + 2 * f = 2 then u 8 else if 5 + 2 * f = 3 then u 9 else if (5 + 2 * f) % 2 = 0 then av ((5 + 2 * f - 4) / 2) else ah ((5 + 2 * f - 5) / 2)) = ah f
    rw [if_neg (by omega), if_neg (by omega), if_neg (by omega), if_neg (by omega), if_neg (by omega), show (5 + 2 * f - 5) / 2 = f by omega]
  let pl : Nat → Nat := fun i => if i = 0 then 29 else if i = 1 then 0 else if i = 2 then 1 else if i = 3 then 2 else if i % 2 = 0 then i + 28 else i + 26
  have hat : ∀ i, i < 4 + 2 * lM (qL X G u) → (netT V.2.2.1 z u (X 0) (X 1) (ix (tdCel (X 0))) g ++ ([(sa, .inl (V.2.2.1 1, 44, .inl X)), (so, .inl (V.2.2.1 1, 8, .inl (smF X 8)))] ++ fc))[pl i]? = some (A i, e2 A (qL X G u) V.2.2.1 i) := by
    intro i hi
    rw [hM] at hi
    have hnl : (netT V.2.2.1 z u (X 0) (X 1) (ix (tdCel (X 0))) g).length = 29 := rfl
    by_cases h0 : i = 0
    · subst h0
      rfl
    by_cases h1 : i = 1
    · subst h1
      rfl
    by_cases h2 : i = 2
    · subst h2
      rfl
    by_cases h3 : i = 3
    · subst h3
      show some (u 9, _) = some (u 9, _)
      congr 2
      show (Sum.inl (V.2.2.1 7, 4, .inr (.inr (.inr (.inr g)))) : va_E) = .inl (V.2.2.1 7, 4, .inr (.inr (.inr (.inr (fun f => if f < lM (qL X G u) then some (A (4 + 2 * f)) else none)))))
      congr 7
      funext f
      rw [hM]
      by_cases hf : f < nf
      · rw [if_pos hf, hAe, (hfc f hf).1]
      · rw [if_neg hf, hgn f (by omega)]
    by_cases h4 : i % 2 = 0
    · obtain ⟨f, rfl⟩ : ∃ f, i = 4 + 2 * f := ⟨(i - 4) / 2, by omega⟩
      have hp : pl (4 + 2 * f) = 29 + (2 + (2 * f + 1)) := by
        show (if 4 + 2 * f = 0 then 29 else if 4 + 2 * f = 1 then 0 else if 4 + 2 * f = 2 then 1 else if 4 + 2 * f = 3 then 2 else if (4 + 2 * f) % 2 = 0 then 4 + 2 * f + 28 else 4 + 2 * f + 26) = _
        rw [if_neg (by omega), if_neg (by omega), if_neg (by omega), if_neg (by omega), if_pos (by omega)]
        omega
      rw [hp, List.getElem?_append_right (by rw [hnl]; omega), hnl, Nat.add_sub_cancel_left, List.getElem?_append_right (by simp)]
      rw [show 2 + (2 * f + 1) - [((sa, .inl (V.2.2.1 1, 44, .inl X)) : Nat × va_E), (so, .inl (V.2.2.1 1, 8, .inl (smF X 8)))].length = 2 * f + 1 by simp]
      obtain ⟨k1, k2, k3, k4⟩ := hfc f (by omega)
      rw [k4, hAe]
      congr 2
      unfold e2
      rw [if_neg (by omega), if_neg (by omega), if_neg (by omega), if_neg (by omega), if_pos (by omega)]
      congr 7
      funext j
      by_cases hj : j = 0
      · subst hj
        rw [if_pos rfl, k2, show 4 + 2 * f + 1 = 5 + 2 * f by omega, hAo]
      · rw [if_neg hj, show (4 + 2 * f - 4) / 2 = f by omega]
        rfl
    · obtain ⟨f, rfl⟩ : ∃ f, i = 5 + 2 * f := ⟨(i - 5) / 2, by omega⟩
      have hp : pl (5 + 2 * f) = 29 + (2 + 2 * f) := by
        show (if 5 + 2 * f = 0 then 29 else if 5 + 2 * f = 1 then 0 else if 5 + 2 * f = 2 then 1 else if 5 + 2 * f = 3 then 2 else if (5 + 2 * f) % 2 = 0 then 5 + 2 * f + 28 else 5 + 2 * f + 26) = _
        rw [if_neg (by omega), if_neg (by omega), if_neg (by omega), if_neg (by omega), if_neg (by omega)]
        omega
      rw [hp, List.getElem?_append_right (by rw [hnl]; omega), hnl, Nat.add_sub_cancel_left, List.getElem?_append_right (by simp)]
      rw [show 2 + 2 * f - [((sa, .inl (V.2.2.1 1, 44, .inl X)) : Nat × va_E), (so, .inl (V.2.2.1 1, 8, .inl (smF X 8)))].length = 2 * f by simp]
      obtain ⟨k1, k2, k3, k4⟩ := hfc f (by omega)
      rw [k3, hAo]
      congr 2
      unfold e2
      rw [if_neg (by omega), if_neg (by omega), if_neg (by omega), if_neg (by omega), if_neg (by omega)]
      rw [show (5 + 2 * f - 5) / 2 = f by omega]
      rfl
  obtain ⟨hI, hzA, hPl⟩ := zl_of (A := A) (q := qL X G u) (pl := pl) hD hat (fun i j hi hj e => by
    rw [hM] at hi hj
    have e : (if i = 0 then 29 else if i = 1 then 0 else if i = 2 then 1 else if i = 3 then 2 else if i % 2 = 0 then i + 28 else i + 26) = (if j = 0 then 29 else if j = 1 then 0 else if j = 2 then 1 else if j = 3 then 2 else if j % 2 = 0 then j + 28 else j + 26) := e
    repeat' split at e
    all_goals omega)
  refine va_forget hS.2.2 ?_
  have R : Lr (p, l, e, room_1, s, m, #[Value.ref b], below, meth, c, 30, lw_Z below #[Value.ref b] s, ce, sl) (Zl V A (qL X G u)) := by
    intro σ pc L d H2 locs2 ls2 hP2 hS2 hl2
    refine va_forget (fun a ha => hzA _ (hS2.2.2 a ha)) ?_
    refine W.widen (k := room_1.cells) (n := room_1.slots) hce hsl ?_
    exact W.base (lw_ret (Drawn.sameBut.refl s.drawn lw_cs) hx hb hr hlocks d)
  have Gf := c_L_law V A (qL X G u) (p, l, e, room_1, s, m, #[Value.ref b], below, meth, c, 30, lw_Z below #[Value.ref b] s, ce, sl) σ4 1 ⟨hx, hb, hml, hown, htg, hK, hI, hlocks, Nat.le_of_ble_eq_true rfl, Nat.le_of_ble_eq_true rfl, zx0_go (fun a ha => hzA a (by obtain ⟨i, hi, e⟩ := ha; exact ⟨i, hi, e⟩)) hzx (fun _ _ _ => rfl) (State.WarmedH.refl s), zl_ok, hce, hsl⟩ hNW.1 (nl_of rfl) R h
  exact Gf H [] ls (hPl H hP) ⟨hS.1, fun a h1 h2 => hS.2.1 a h1 (Nat.not_le.mpr h1), fun _ h => by cases h⟩ (lv_sub hl ks hL)
set_option maxRecDepth 100000 in
set_option maxHeartbeats 4000000 in
theorem perm_3 {α : Type} (a b c : List α) : (a ++ (b ++ c)).Perm (c ++ (a ++ b)) := by
  rw [← List.append_assoc]
  exact List.perm_append_comm
set_option maxRecDepth 100000 in
set_option maxHeartbeats 40000000 in
theorem law_mid {p : Program} {e : Env} {s : State} {m : MethodId} {below : List Frame} {meth : Method} {c : Code} (l : Launch) {b LL : Nat} {xs : Nat → Int32} {V : Ct_V} {σ1 σ2 σ3 : Wd} {X : Nat → Int32} {sa so n nc nf : Nat} {Rr : Wd → Prop} (C0 : lw_At p s m meth c b LL xs) (C : Nx (p, l, e, room_1, s, m, #[Value.ref b], below, meth, c, 30, lw_Z below #[Value.ref b] s, 0, 0) V.1 V.2.2.1 cL_law RL (fun q => s.heap.size ≤ q) 13 504 room_1.cells room_1.slots) (hzx : zx0 V.2.2.2 (fun q => s.heap.size ≤ q) s) (h2 : M_L_told (smF X 8) (X 0) (X 1) σ1 = some σ2) (h3 : M_X8_read σ2 = some (0, σ3)) (hn1 : 1 ≤ n) (hn5 : n ≤ 5) (hnc4 : nc ≤ 4) (hn : tdCop (X 1) = nI n) (hnc : tdCel (X 0) = nI nc) (hnf : tdFor (X 0) (X 1) = nI nf) (hnf4 : nf ≤ 4) (hR3 : Rr σ3) (hSF : SameF Rr n nc (ivT (X 0) (X 1)) (tdFs (X 1) (ix (tdCel (X 0))))) (hlaw : ∀ σ4, Rr σ4 → ∀ G u, ∃ σ5, M_L_law (qL X G u) σ4 1 = some (1, σ5)) : Gn (p, l, e, room_1, s, m, #[Value.ref b], below, meth, c, 30, lw_Z below #[Value.ref b] s, 0, 0) V.1 (fun q => s.heap.size ≤ q) (zW (Zc V) σ1 ++ [(sa, .inl (V.2.2.1 1, 44, .inl X)), (so, .inl (V.2.2.1 1, 8, .inl (smF X 8)))]) 129 12311 65 [(2, .ref so), (1, .ref sa), (0, .ref b)] [.ref (zA (Zc V) 0)] := by
  have hN := nl_of (K := (p, l, e, room_1, s, m, #[Value.ref b], below, meth, c, 30, lw_Z below #[Value.ref b] s, 0, 0)) rfl
  refine n_know (fun hD => ?_)
  obtain ⟨hZ, hzA⟩ := zc_of hD
  have hcs : CSt s := Cond.castable_spec (C0.2.2.2.2.2.1 _ (List.mem_of_getElem? (i := 1342) (by decide +kernel)))
  have hX : Xk (p, l, e, room_1, s, m, #[Value.ref b], below, meth, c, 30, lw_Z below #[Value.ref b] s, 0, 0) (fun q => s.heap.size ≤ q) V := fun H locs hS U hU hW => zx0_go (fun a ha => hzA a ha) hzx (fun a h1 h2 => by rw [hU]; exact hS.2.1 a h1 h2) hW
  have hcop : ¬ tdCop (X 1) = 0 := by
    intro e
    rw [hn] at e
    have := (nI_eq (a := n) (b := 0) (by omega) (by decide)).mp e
    omega
  refine g_astore_n (L' := [(3, .ref (zA (Zc V) 0)), (2, .ref so), (1, .ref sa), (0, .ref b)]) C 65 dL_law_65 rfl (hN _ (Nat.le_of_ble_eq_true rfl)) rfl ?_
  refine g_aload_n C 66 0 dL_law_66 rfl ?_
  refine g_aload_n C 67 1 dL_law_67 rfl ?_
  refine g_aload_n C 68 2 dL_law_68 rfl ?_
  refine g_iconst C 69 dL_law_69 ki_0 ?_
  refine g_iald C 70 (127 + 0) (zwa rfl) (by decide) dL_law_70 ?_
  rw [show ((X) (ix (0 : Int32))) = X 0 from rfl]
  refine g_aload_n C 71 2 dL_law_71 rfl ?_
  refine g_iconst C 72 dL_law_72 ki_1 ?_
  refine g_iald C 73 (127 + 0) (zwa rfl) (by decide) dL_law_73 ?_
  rw [show ((X) (ix (1 : Int32))) = X 1 from rfl]
  refine g_callW C hcs hZ hzA hX 74 [.ref (zA (Zc V) 0), .ref so, .int (X 0), .int (X 1)] [] rfl tw_1153 ms_L_told (Nat.le_of_ble_eq_true rfl) (Nat.le_of_ble_eq_true rfl) (Nat.le_of_ble_eq_true rfl) (Nat.le_of_ble_eq_true rfl) (Nat.le_of_ble_eq_true rfl) dL_law_74 (t_told (Kl _) V σ1 so (smF X 8) (X 0) (X 1) hcop ⟨nc, hnc, hnc4⟩ ⟨nf, hnf, hnf4⟩ h2) [1] rfl (fun rv w2 nl hr => ?_)
  obtain ⟨rfl, z, u, g, fc, rfl, rfl, hfc, hgn⟩ := hr
  refine n_perm (ws' := zW (Zc V) w2 ++ (netT V.2.2.1 z u (X 0) (X 1) (ix (tdCel (X 0))) g ++ ([(sa, .inl (V.2.2.1 1, 44, .inl X)), (so, .inl (V.2.2.1 1, 8, .inl (smF X 8)))] ++ fc))) (List.Perm.append_left _ (perm_3 _ _ _)) ?_
  show Gn _ _ _ _ _ _ _ _ [.ref z]
  refine g_astore (L' := [(4, .ref z), (3, .ref (zA (Zc V) 0)), (2, .ref so), (1, .ref sa), (0, .ref b)]) C 77 dL_law_77 (hN _ (Nat.le_of_ble_eq_true rfl)) rfl ?_
  refine g_aload_n C 79 1 dL_law_79 rfl ?_
  refine g_callX C hZ hzA hX 80 [] [] rfl tw_397 mv_X8_read rfl (Nat.le_of_ble_eq_true rfl) (Nat.le_of_ble_eq_true rfl) (Nat.le_of_ble_eq_true rfl) (Nat.le_of_ble_eq_true rfl) (Nat.le_of_ble_eq_true rfl) dL_law_80 (c_X8_read V _ _ h3) ?_
  show Gn _ _ _ _ _ _ _ _ [.int (0 : Int32)]
  refine g_if_ne C 83 99 dL_law_83 (by decide) (fun hq => absurd hq (by decide)) (fun _ => ?_)
  refine g_aload_n C 86 1 dL_law_86 rfl ?_
  refine g_aload C 87 0 dL_law_87 rfl ?_
  refine g_callW C hcs hZ hzA hX 89 [.ref (zA (Zc V) 0), .ref z] [] rfl tw_1313 ms_L_same (Nat.le_of_ble_eq_true rfl) (Nat.le_of_ble_eq_true rfl) (Nat.le_of_ble_eq_true rfl) (Nat.le_of_ble_eq_true rfl) (Nat.le_of_ble_eq_true rfl) dL_law_89 (t_same (Kl _) V _ z u (ivT (X 0) (X 1)) (tdFs (X 1) (ix (tdCel (X 0)))) Rr n nc hn1 hn5 hnc4 hn hnc hR3 hSF) [0, 1, 5, 6, 7, 8, 9, 10, 11, 12, 19, 24, 20, 21, 22, 23, 25, 26, 27, 28] rfl (fun rv w4 nl hr => ?_)
  obtain ⟨rfl, hR4, rfl⟩ := hr
  show Gn _ _ _ _ _ _ _ _ [.int (1 : Int32)]
  refine g_if_eq C 92 99 dL_law_92 (by decide) (fun hq => absurd hq (by decide)) (fun _ => ?_)
  refine g_iconst C 95 dL_law_95 ki_1 ?_
  refine g_goto C 96 100 dL_law_96 (by decide) ?_
  refine g_istore (L' := [(5, .int (1 : Int32)), (4, .ref z), (3, .ref (zA (Zc V) 0)), (2, .ref so), (1, .ref sa), (0, .ref b)]) C 100 dL_law_100 (hN _ (Nat.le_of_ble_eq_true rfl)) rfl ?_
  rw [hnf, ix_nI (by omega)] at hfc hgn
  obtain ⟨hfl, av, ah, G, hfc⟩ := FcOk.all nf fc hfc
  obtain ⟨σ5, h5⟩ := hlaw w4 hR4 G u
  exact law_end (xs := xs) l C0 C hzx hnf hnf4 hfl hfc hgn h5 (Nat.le_of_ble_eq_true rfl) (Nat.le_of_ble_eq_true rfl) [4, 2, 1, 0] rfl
set_option maxRecDepth 100000 in
set_option maxHeartbeats 40000000 in
theorem law_start {p : Program} {e : Env} {s : State} {m : MethodId} {below : List Frame} {meth : Method} {c : Code} (l : Launch) {b LL : Nat} {xs : Nat → Int32} (hL : LL ≤ 260) (C0 : lw_At p s m meth c b LL xs) (hP : LawP (scF xs (min LL 44))) : W p l e room_1 s m #[Value.ref b] below meth c s.heap [] 0 0 (lw_Z below #[Value.ref b] s) (entryFrame m ([Value.ref b] : List Value).toArray 30) := by
  obtain ⟨hx, hb, hr, hml, hown, hts, hX, hbl, hlocks, hgv⟩ := id C0
  have htg : ∀ w ∈ gw_tbl, w.before #[Value.ref b] s = true := fun w h => hts w (List.mem_filter.mp h).1
  obtain ⟨D, cy, hK, hNW⟩ := law_words hts
  obtain ⟨ax, hzx⟩ := law_zx hts hgv
  have hl := lv_entry ([.ref b]) (n := 30) (Nat.le_of_ble_eq_true rfl)
  rw [lg_entry_eq]
  have hl : lv_has _ 30 [(0, .ref b)] := hl
  have C : Nx (p, l, e, room_1, s, m, #[Value.ref b], below, meth, c, 30, lw_Z below #[Value.ref b] s, 0, 0) D cy cL_law RL (fun q => s.heap.size ≤ q) 13 504 room_1.cells room_1.slots := ⟨hx, hb, hml, hown, htg, hK, hlocks, Nat.le_refl _, Nat.le_refl _, Nat.le_refl _, Nat.le_refl _, fun q h => h, hNW⟩
  have hN := nl_of (K := (p, l, e, room_1, s, m, #[Value.ref b], below, meth, c, 30, lw_Z below #[Value.ref b] s, 0, 0)) rfl
  have hAb : ¬ s.heap.size ≤ b := Nat.not_le.mpr hbl
  suffices G : Gn (p, l, e, room_1, s, m, #[Value.ref b], below, meth, c, 30, lw_Z below #[Value.ref b] s, 0, 0) D (fun q => s.heap.size ≤ q) [] 0 0 0 [(0, .ref b)] [] from G s.heap [] _ (fun k q h => by simp at h) ⟨fun i j p q h => by simp at h, fun k q h => by simp at h⟩ va_S.rf hl
  have hLn : Int32.ofNat LL = nI LL := rfl
  refine g_bipush C 0 dL_law_0 kb_44 ?_
  refine g_newi C 2 44 (by decide) rfl (Nat.le_of_ble_eq_true rfl) (Nat.le_of_ble_eq_true rfl) (Nat.le_of_ble_eq_true rfl) dL_law_2 (fun q2 => ?_)
  refine g_eq (ws2 := ([(q2, .inl (cy 1, 44, .inl (fun _ => 0)))] : va_W)) rfl ?_
  refine g_astore_n (L' := [(1, .ref q2), (0, .ref b)]) C 4 dL_law_4 rfl (hN _ (Nat.le_of_ble_eq_true rfl)) rfl ?_
  refine g_iconst C 5 dL_law_5 ki_0 ?_
  refine g_istore_n (L' := [(2, .int (0 : Int32)), (1, .ref q2), (0, .ref b)]) C 6 dL_law_6 rfl (hN _ (Nat.le_of_ble_eq_true rfl)) rfl ?_
  generalize hXX : scF xs (min LL 44) = X at hP
  obtain ⟨σ1, σ2, σ3, Rr, n, nc, h1, h2, h3, ⟨hn1, hn5, hnc4, hn, hnc, nf, hnf, hnf4⟩, hR3, hSF, hlaw⟩ := hP
  have k31 : Gn (p, l, e, room_1, s, m, #[Value.ref b], below, meth, c, 30, lw_Z below #[Value.ref b] s, 0, 0) D (fun q => s.heap.size ≤ q) ([(q2, .inl (cy 1, 44, .inl (X)))] : va_W) 1 44 31 [(1, .ref q2), (0, .ref b)] [] := by
    refine g_bipush C 31 dL_law_31 kb_8 ?_
    refine g_newi C 33 8 (by decide) rfl (Nat.le_of_ble_eq_true rfl) (Nat.le_of_ble_eq_true rfl) (Nat.le_of_ble_eq_true rfl) dL_law_33 (fun q33 => ?_)
    refine g_eq (ws2 := ([(q2, .inl (cy 1, 44, .inl X)), (q33, .inl (cy 1, 8, .inl (fun _ => 0)))] : va_W)) rfl ?_
    refine g_astore_n (L' := [(2, .ref q33), (1, .ref q2), (0, .ref b)]) C 35 dL_law_35 rfl (hN _ (Nat.le_of_ble_eq_true rfl)) rfl ?_
    refine g_iconst C 36 dL_law_36 ki_0 ?_
    refine g_istore_n (L' := [(3, .int (0 : Int32)), (2, .ref q33), (1, .ref q2), (0, .ref b)]) C 37 dL_law_37 rfl (hN _ (Nat.le_of_ble_eq_true rfl)) rfl ?_
    have k58 : Gn (p, l, e, room_1, s, m, #[Value.ref b], below, meth, c, 30, lw_Z below #[Value.ref b] s, 0, 0) D (fun q => s.heap.size ≤ q) ([(q2, .inl (cy 1, 44, .inl X)), (q33, .inl (cy 1, 8, .inl (smF X 8)))] : va_W) 2 52 58 [(2, .ref q33), (1, .ref q2), (0, .ref b)] [] := by
      refine n_new (ci := 8) (fs := [.null, .int 0, .int 0, .null, .null, .null, .null, .null, .null, .null, .null, .null, .null]) C 58 in_X8 tyX8 tyX8_ok tw_58 tw_59 tw_39 rfl df_X8 (Nat.le_of_ble_eq_true rfl) (Nat.le_of_ble_eq_true rfl) dL_law_58 (fun q58 => n_know (fun hD1 => ?_))
      refine n_dup C 61 dL_law_61 rfl ?_
      have hq58 : s.heap.size ≤ q58 := hD1.2 2 _ rfl
      refine n_init (ws := [(q2, .inl (cy 1, 44, .inl X)), (q33, .inl (cy 1, 8, .inl (smF X 8)))]) (rest := [.ref q58]) C 62 [] tw_60 mw_X8 tw_61 rfl (i_X8 l D cy ax q58 h1) (fun sz a U g mk h => zx0_calling h) (fun K2 hK2 H locs hP hS U hU hW => by
        subst hK2
        exact zx0_go (fun a ha => by
          rcases ha with ⟨k, e', hk⟩ | h
          · match k, hk with
            | 0, hk => cases hk; exact hq58
            | k + 1, hk => simp at hk
          · exact Nat.le_trans hS.1 h) hzx (fun a h1 h2 => by rw [hU]; exact hS.2.1 a h1 h2) hW) (Nat.le_of_ble_eq_true rfl) (Nat.le_of_ble_eq_true rfl) (Nat.le_of_ble_eq_true rfl) (Nat.le_of_ble_eq_true rfl) (Nat.le_of_ble_eq_true rfl) rfl dL_law_62 (fun u1 => ?_)
      refine n_perm List.perm_append_comm ?_
      exact law_mid (xs := xs) (V := (D, adz q58 u1, cy, ax)) l C0 C hzx h2 h3 hn1 hn5 hnc4 hn hnc hnf hnf4 hR3 hSF hlaw
    have loop2 : ∀ (k i : Nat), i + k = 8 → Gn (p, l, e, room_1, s, m, #[Value.ref b], below, meth, c, 30, lw_Z below #[Value.ref b] s, 0, 0) D (fun q => s.heap.size ≤ q) ([(q2, .inl (cy 1, 44, .inl X)), (q33, .inl (cy 1, 8, .inl (smF X i)))] : va_W) 2 52 38 [(3, .int (nI i)), (2, .ref q33), (1, .ref q2), (0, .ref b)] [] := by
      intro k
      induction k with
      | zero =>
        intro i hi
        rw [show i = 8 by omega]
        have hge : (8 : Int32) ≤ nI 8 := by decide
        refine g_iload_n C 38 0 dL_law_38 rfl ?_
        refine g_bipush C 39 dL_law_39 kb_8 ?_
        refine g_icmp_ge C 41 58 dL_law_41 (by decide) (fun _ => ?_) (fun hq => absurd hge hq)
        exact g_sub [1, 2, 3] rfl k58
      | succ k ih =>
        intro i hi
        have hlt : ¬ (8 : Int32) ≤ nI i := by rw [show (8 : Int32) = nI 8 from rfl, nI_leI (by omega) (by omega)]; omega
        have hi8 : ib (nI i) 8 := (ib_nI (by omega)).mpr (by omega)
        have hi44 : ib ((2 : Int32) + nI i) 44 := by rw [show (2 : Int32) = nI 2 from rfl, nI_add]; exact (ib_nI (by omega)).mpr (by omega)
        refine g_iload_n C 38 0 dL_law_38 rfl ?_
        refine g_bipush C 39 dL_law_39 kb_8 ?_
        refine g_icmp_ge C 41 58 dL_law_41 (by decide) (fun hq => absurd hq hlt) (fun _ => ?_)
        refine g_aload_n C 44 1 dL_law_44 rfl ?_
        refine g_iload_n C 45 0 dL_law_45 rfl ?_
        refine g_aload_n C 46 2 dL_law_46 rfl ?_
        refine g_iconst C 47 dL_law_47 ki_2 ?_
        refine g_iload_n C 48 0 dL_law_48 rfl ?_
        refine g_iadd C 49 dL_law_49 ?_
        refine g_iald C 50 0 rfl hi44 dL_law_50 ?_
        refine g_iast (f' := upd (smF X i) (ix (nI i)) ((X) (ix ((2 : Int32) + nI i)))) (ws' := ([(q2, .inl (cy 1, 44, .inl X)), (q33, .inl (cy 1, 8, .inl (upd (smF X i) (ix (nI i)) ((X) (ix ((2 : Int32) + nI i))))))] : va_W)) C 51 1 rfl hi8 rfl rfl dL_law_51 ?_
        refine g_iinc (v := nI (i + 1)) (L' := [(3, .int (nI (i + 1))), (2, .ref q33), (1, .ref q2), (0, .ref b)]) C 52 0 dL_law_52 rfl (nI_1 _) (hN _ (Nat.le_of_ble_eq_true rfl)) rfl ?_
        refine g_goto C 55 38 dL_law_55 (by decide) ?_
        refine g_sub [0, 1, 2, 3] rfl ?_
        exact ih (i + 1) (by omega)
    exact loop2 8 0 rfl
  have loop1 : ∀ (k i : Nat), i + k = min LL 44 → Gn (p, l, e, room_1, s, m, #[Value.ref b], below, meth, c, 30, lw_Z below #[Value.ref b] s, 0, 0) D (fun q => s.heap.size ≤ q) ([(q2, .inl (cy 1, 44, .inl (scF xs i)))] : va_W) 1 44 7 [(2, .int (nI i)), (1, .ref q2), (0, .ref b)] [] := by
    intro k
    induction k with
    | zero =>
      intro i hi
      have hi2 : scF xs i = X := by rw [← hXX, show i = min LL 44 by omega]
      by_cases h44 : 44 ≤ i
      · have hge : (44 : Int32) ≤ nI i := by rw [show (44 : Int32) = nI 44 from rfl, nI_leI (by omega) (by omega)]; omega
        refine g_iload_n C 7 0 dL_law_7 rfl ?_
        refine g_bipush C 8 dL_law_8 kb_44 ?_
        refine g_icmp_ge C 10 31 dL_law_10 (by decide) (fun _ => ?_) (fun hq => absurd hge hq)
        rw [hi2]
        exact g_sub [1, 2] rfl k31
      · have hlt : ¬ (44 : Int32) ≤ nI i := by rw [show (44 : Int32) = nI 44 from rfl, nI_leI (by omega) (by omega)]; omega
        have hge2 : Int32.ofNat LL ≤ nI i := by rw [hLn, nI_leI (by omega) (by omega)]; omega
        refine g_iload_n C 7 0 dL_law_7 rfl ?_
        refine g_bipush C 8 dL_law_8 kb_44 ?_
        refine g_icmp_ge C 10 31 dL_law_10 (by decide) (fun hq => absurd hq hlt) (fun _ => ?_)
        refine g_iload_n C 13 0 dL_law_13 rfl ?_
        refine g_aload_n C 14 2 dL_law_14 rfl ?_
        refine g_slen C hX hbl hAb 15 dL_law_15 ?_
        refine g_icmp_ge C 16 31 dL_law_16 (by decide) (fun _ => ?_) (fun hq => absurd hge2 hq)
        rw [hi2]
        exact g_sub [1, 2] rfl k31
    | succ k ih =>
      intro i hi
      have hiL : i < LL := by omega
      have hlt : ¬ (44 : Int32) ≤ nI i := by rw [show (44 : Int32) = nI 44 from rfl, nI_leI (by omega) (by omega)]; omega
      have hlt2 : ¬ Int32.ofNat LL ≤ nI i := by rw [hLn, nI_leI (by omega) (by omega)]; omega
      have hi44 : ib (nI i) 44 := (ib_nI (by omega)).mpr (by omega)
      refine g_iload_n C 7 0 dL_law_7 rfl ?_
      refine g_bipush C 8 dL_law_8 kb_44 ?_
      refine g_icmp_ge C 10 31 dL_law_10 (by decide) (fun hq => absurd hq hlt) (fun _ => ?_)
      refine g_iload_n C 13 0 dL_law_13 rfl ?_
      refine g_aload_n C 14 2 dL_law_14 rfl ?_
      refine g_slen C hX hbl hAb 15 dL_law_15 ?_
      refine g_icmp_ge C 16 31 dL_law_16 (by decide) (fun hq => absurd hq hlt2) (fun _ => ?_)
      refine g_aload_n C 19 1 dL_law_19 rfl ?_
      refine g_iload_n C 20 0 dL_law_20 rfl ?_
      refine g_aload_n C 21 2 dL_law_21 rfl ?_
      refine g_iload_n C 22 0 dL_law_22 rfl ?_
      refine g_sld C hX hbl hAb 23 i hiL (by omega) dL_law_23 ?_
      refine g_iast (f' := upd (scF xs i) (ix (nI i)) (xs i)) (ws' := ([(q2, .inl (cy 1, 44, .inl (upd (scF xs i) (ix (nI i)) (xs i))))] : va_W)) C 24 0 rfl hi44 rfl rfl dL_law_24 ?_
      refine g_iinc (v := nI (i + 1)) (L' := [(2, .int (nI (i + 1))), (1, .ref q2), (0, .ref b)]) C 25 0 dL_law_25 rfl (nI_1 _) (hN _ (Nat.le_of_ble_eq_true rfl)) rfl ?_
      refine g_goto C 28 7 dL_law_28 (by decide) ?_
      refine g_sub [0, 1, 2] rfl ?_
      exact ih (i + 1) (by omega)
  exact loop1 (min LL 44) 0 (by omega)
