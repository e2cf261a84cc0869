/-! the law from its entry -/
def lw_P (b : Addr) (xs : List Int32) (args : Array Value) (s : State) : Prop := args = #[.ref b] ∧ s.IntsAt b xs ∧ xs.length ≤ 3072 ∧ (Jvm.Cond.and given_1 narrow_1).before args s = true
/-- what a walk over the start with the record d0 says of its end, said of the start itself -/
theorem lw_closed {s t : State} {o : Outcome} {d0 : Drawn} {L : List Loc} {k n : Nat} (hd0 : s.drawn.sameBut d0 lw_cs) (hv : ∃ v, o = .returned v) (hW : (s.setDrawn d0).WarmedH t.vm) (hs : (s.setDrawn d0).sameButNew ({ t with vm := s.vm } : State) L k n) : State.butDraws s t lw_cs (fun t1 => Framed s o t1 L k n) := by
  have h2 : t.drawn = d0 := congrArg State.drawn hs.1
  refine ⟨⟨hv, hW, State.sameButNew.setDrawn hs s.drawn⟩, ?_, by decide⟩
  rw [h2]
  exact hd0
def lw_Q (_ : Array Value) (s : State) (o : Outcome) (t : State) : Prop := o = .returned (some (.int 1)) ∧ State.butDraws s t lw_cs (fun t1 => Framed s o t1 [] 600000 7302250)
def lw_Z (below : List Frame) (a : Array Value) (s : State) : State → Prop := fun t => ∃ o, t.status = .running ∧ Ended t below o ∧ lw_Q a s o t
/-- the law's own end, with 1 on the stack, nothing written that was there before, its room as the claim has it; d0: the record of draws at this point (at the entry s.drawn: begin with 'refine W.base ?_' and 'have hd0 := Drawn.sameBut.refl s.drawn lw_cs') -/
theorem lw_ret {p : Program} {l : Launch} {e : Env} {s : State} {m : MethodId} {below : List Frame} {meth : Method} {c : Code} {b : Nat} {d0 : Drawn} (hd0 : s.drawn.sameBut d0 lw_cs) (hx : p.tables.exec = Jvm.exec) (hb : c.code = code) (hr : meth.sig.returnType = ret) (hlocks : meth.locks = false) {pc : Nat} {H : Heap} {ls : Array Slot} (hdg : decode code pc = .ok (.ireturn, 1)) : W p l e room_1 (s.setDrawn d0) m #[Value.ref b] below meth c H [] 600000 7302250 (lw_Z below #[Value.ref b] s) (F0 m pc ls [.int 1]) := by
  intro T hT X
  obtain ⟨fs, hret, hrun, hended, hW, hframe⟩ := X.leave (v := some (.int 1)) (hlocks := hlocks) (fun h => by rw [hr] at h; cases h)
  have hmeth' : T.vm.method? m = some meth := X.method'
  refine ⟨T.setFrames fs, ?_, .returned (some (.int 1)), hrun, hended, rfl, lw_closed hd0 ⟨_, rfl⟩ hW hframe⟩
  jvm_step X.here [X.here.top, hx, hb, hdg, hmeth', hr, ret, narrow_b1]
  (try refine ⟨rfl, ?_⟩); (try refine ⟨rfl, ?_⟩)
  first | (intro acts; rw [hret _ acts rfl rfl rfl]) | rw [hret _ _ rfl rfl rfl]
  exact Steps.refl _
/-- what holds at the law's entry: the machine, the code, the tables' words (any of lw_tbl by 'hts w (by decide +kernel)'), the script of L ints xs at the cell b, what the Statement gives of the start (any of its parts by flat_of_before) -/
def lw_At (p : Program) (s : State) (m : MethodId) (meth : Method) (c : Code) (b L : Nat) (xs : Nat → Int32) : Prop :=
  p.tables.exec = Jvm.exec ∧ c.code = code ∧ meth.sig.returnType = ret ∧ c.maxLocals = 4 ∧ s.vm.findClass R_law = some m.cls ∧ (∀ w ∈ lw_tbl, w.before #[Value.ref b] s = true) ∧ va_X b L xs s s.heap ∧ b < s.heap.size ∧ meth.locks = false ∧ (Jvm.Cond.and given_1 narrow_1).before #[Value.ref b] s = true
theorem tw_134 : Cond.classLink R_law 7 RX8 ∈ gw_tbl := gw_mem 134 (by decide +kernel) (by decide +kernel)
theorem tw_135 : Cond.instantiable RX8 13 ∈ gw_tbl := gw_mem 135 (by decide +kernel) (by decide +kernel)
theorem tw_136 : Cond.methodLink R_law 9 yX8_init ∈ gw_tbl := gw_mem 136 (by decide +kernel) (by decide +kernel)
theorem tw_137 : Cond.instanceMethod yX8_init ∈ gw_tbl := gw_mem 137 (by decide +kernel) (by decide +kernel)
theorem tw_1245 : Cond.classLink R_law 10 RX9 ∈ gw_tbl := gw_mem 1245 (by decide +kernel) (by decide +kernel)
theorem tw_1246 : Cond.instantiable RX9 59 ∈ gw_tbl := gw_mem 1246 (by decide +kernel) (by decide +kernel)
theorem tw_1247 : Cond.methodLink R_law 12 yX9_init ∈ gw_tbl := gw_mem 1247 (by decide +kernel) (by decide +kernel)
theorem tw_1248 : Cond.instanceMethod yX9_init ∈ gw_tbl := gw_mem 1248 (by decide +kernel) (by decide +kernel)
theorem va_P_split {D : va_G} {H : Heap} {w1 w2 : va_W} (h : va_P D vwCl (w1 ++ w2) H) : va_P D vwCl w1 H ∧ va_P D vwCl w2 H := by
  refine ⟨fun k q hq => h k q ?_, fun k q hq => h (w1.length + k) q ?_⟩
  · rw [List.getElem?_append_left (List.getElem?_eq_some_iff.mp hq).1]; exact hq
  · rw [List.getElem?_append_right (by omega), Nat.add_sub_cancel_left]; exact hq
theorem two_zones {A : Nat → Prop} {Z1 Z2 : Zt} {σ τ : Wd} (hD : va_D A (zW Z1 σ ++ zW Z2 τ)) : (zI Z1 ∧ zI Z2) ∧ (∀ q, zS Z1 q → A q) ∧ (∀ q, zS Z2 q → A q) ∧ ∀ q, zS Z1 q → ¬ zS Z2 q := by
  have hl : (zW Z1 σ).length = zN Z1 := by simp [zW]
  have h1 : ∀ i, i < zN Z1 → (zW Z1 σ ++ zW Z2 τ)[i]? = some (zA Z1 i, zY Z1 i σ) := fun i hi => by rw [List.getElem?_append_left (by rw [hl]; exact hi)]; exact zW_at hi
  have h2 : ∀ i, i < zN Z2 → (zW Z1 σ ++ zW Z2 τ)[zN Z1 + i]? = some (zA Z2 i, zY Z2 i τ) := fun i hi => by rw [List.getElem?_append_right (by rw [hl]; omega), hl, Nat.add_sub_cancel_left]; exact zW_at hi
  refine ⟨⟨fun i j hi hj e => hD.1 i j _ _ (h1 i hi) (h1 j hj) e, fun i j hi hj e => ?_⟩, fun q hq => ?_, fun q hq => ?_, fun q hq hq2 => ?_⟩
  · have := hD.1 _ _ _ _ (h2 i hi) (h2 j hj) e
    omega
  · obtain ⟨i, hi, rfl⟩ := hq; exact hD.2 i _ (h1 i hi)
  · obtain ⟨i, hi, rfl⟩ := hq; exact hD.2 _ _ (h2 i hi)
  · obtain ⟨i, hi, rfl⟩ := hq
    obtain ⟨j, hj, e⟩ := hq2
    have := hD.1 _ _ _ _ (h1 i hi) (h2 j hj) e
    omega
theorem n_know {K : Kt} {D : va_G} {A : Nat → Prop} {ws : va_W} {ce sl pc : Nat} {L : List (Nat × Value)} {st : List Value} (k : va_D A ws → Gn K D A ws ce sl pc L st) : Gn K D A ws ce sl pc L st := by
  obtain ⟨p, l, e, R, s, m, args, below, meth, c, nL, Q⟩ := K
  intro H locs ls hP hD hS hl
  exact k hD H locs ls hP hD hS hl
set_option maxRecDepth 100000 in
set_option maxHeartbeats 4000000 in
theorem law_words {s : State} {b : Nat} (hts : ∀ w ∈ lw_tbl, w.before #[Value.ref b] s = true) : ∃ (D : va_G) (cy : Nat → ClassId), va_K D vwCl (T6 cy) s ∧ NW s := by
  have htg : ∀ w ∈ gw_tbl, w.before #[Value.ref b] s = true := fun w h => hts w (List.mem_filter.mp h).1
  obtain ⟨c0, iS0, k0⟩ := u_known (C := RX0) (T := TX0) (N := 4) (n := 4) htg in_X0 (htg _ tw_353)
  obtain ⟨c1, iS1, k1⟩ := u_known (C := RX1) (T := TX1) (N := 8) (n := 8) htg in_X1 (htg _ tw_287)
  obtain ⟨c2, iS2, k2⟩ := u_known (C := RX2) (T := TX2) (N := 3) (n := 3) htg in_X2 (htg _ tw_327)
  obtain ⟨c3, iS3, k3⟩ := u_known (C := RX3) (T := TX3) (N := 11) (n := 11) htg in_X3 (htg _ tw_221)
  obtain ⟨c4, iS4, k4⟩ := u_known (C := RX4) (T := TX4) (N := 9) (n := 9) htg in_X4 (htg _ tw_347)
  obtain ⟨c5, iS5, k5⟩ := u_known (C := RX5) (T := TX5) (N := 6) (n := 6) htg in_X5 (htg _ tw_405)
  obtain ⟨c6, iS6, k6⟩ := u_known (C := RX6) (T := TX6) (N := 6) (n := 6) htg in_X6 (htg _ tw_227)
  obtain ⟨c7, iS7, k7⟩ := u_known (C := RX7) (T := TX7) (N := 14) (n := 14) htg in_X7 (htg _ tw_143)
  obtain ⟨c8, iS8, k8⟩ := u_known (C := RX8) (T := TX8) (N := 13) (n := 13) htg in_X8 (htg _ tw_135)
  obtain ⟨c9, iS9, k9⟩ := u_known (C := RX9) (T := TX9) (N := 59) (n := 59) htg in_X9 (htg _ tw_1246)
  obtain ⟨a0, ka0, co0, f0, g0, e0⟩ := Cond.arrayClass_spec (htg _ tw_217)
  obtain ⟨a1, ka1, co1, f1, g1, e1⟩ := Cond.arrayClass_spec (htg _ tw_218)
  obtain ⟨a2, ka2, co2, f2, g2, e2⟩ := Cond.arrayClass_spec (htg _ tw_251)
  obtain ⟨a3, ka3, co3, f3, g3, e3⟩ := Cond.arrayClass_spec (htg _ tw_219)
  have hao : (Cond.arrayOver (.object "TentativeDesk$Going")).before #[Value.ref b] s = true := (hts _ (List.mem_of_getElem? (i := 345) (by decide +kernel)))
  have haol : (Cond.arrayOver (.array .long)).before #[Value.ref b] s = true := (hts _ (List.mem_of_getElem? (i := 333) (by decide +kernel)))
  obtain ⟨co4, a4, ka4, p1, p2, p3, p4, p5⟩ := Cond.arrayOver_spec hao
  obtain ⟨co5, a5, ka5, r1, r2, r3, r4, r5⟩ := arrayOverA_spec haol
  refine ⟨(fun k => [c0, c1, c2, c3, c4, c5, c6, c7, c8, c9].getD k c0, fun k => [iS0, iS1, iS2, iS3, iS4, iS5, iS6, iS7, iS8, iS9].getD k iS0), fun k => [a0, a1, a2, a3, a4, a5].getD k a0, ⟨?_, ?_⟩, ?_, ?_, ?_⟩
  · intro k q hq
    match k, hq with
    | 0, hq => cases hq; exact k0
    | 1, hq => cases hq; exact k1
    | 2, hq => cases hq; exact k2
    | 3, hq => cases hq; exact k3
    | 4, hq => cases hq; exact k4
    | 5, hq => cases hq; exact k5
    | 6, hq => cases hq; exact k6
    | 7, hq => cases hq; exact k7
    | 8, hq => cases hq; exact k8
    | 9, hq => cases hq; exact k9
    | k + 10, hq => simp [vwCl] at hq
  · intro k q hq
    match k, hq with
    | 0, hq => cases hq; exact ⟨fun n z => ⟨fun k h => (by cases h), ka0, g0, co0, e0⟩, f0⟩
    | 1, hq => cases hq; exact ⟨fun n z => ⟨fun k h => (by cases h), ka1, g1, co1, e1⟩, f1⟩
    | 2, hq => cases hq; exact ⟨fun n z => ⟨fun k h => (by cases h), ka2, g2, co2, e2⟩, f2⟩
    | 3, hq => cases hq; exact ⟨fun n z => ⟨fun k h => (by cases h), ka3, g3, co3, e3⟩, f3⟩
    | 4, hq => cases hq; exact ⟨fun n z => ⟨fun k h => (by cases h), ka4, p3, co4, p4⟩, ka4, co4, p3, p4, p1, p5⟩
    | 5, hq => cases hq; exact ⟨fun n z => ⟨fun k h => (by cases h), ka5, r3, co5, r4⟩, r5⟩
    | k + 6, hq => simp [T6] at hq
  · intro w hw
    simp only [NWl, List.mem_cons, List.not_mem_nil, or_false] at hw
    rcases hw with rfl | rfl | rfl | rfl | rfl | rfl
    · exact va_Nw.of rfl (hts _ (List.mem_of_getElem? (i := 228) (by decide +kernel)))
    · exact va_Nw.of rfl (hts _ (List.mem_of_getElem? (i := 288) (by decide +kernel)))
    · exact va_Nw.of rfl (hts _ (List.mem_of_getElem? (i := 328) (by decide +kernel)))
    · exact va_Nw.of rfl (hts _ (List.mem_of_getElem? (i := 348) (by decide +kernel)))
    · exact va_Nw.of rfl (hts _ (List.mem_of_getElem? (i := 354) (by decide +kernel)))
    · exact va_Nw.of rfl (hts _ (List.mem_of_getElem? (i := 406) (by decide +kernel)))
  · exact va_AO.of hao
  · exact haol
set_option maxRecDepth 100000 in
set_option maxHeartbeats 4000000 in
theorem law_zx {s : State} {b : Nat} (hts : ∀ w ∈ lw_tbl, w.before #[Value.ref b] s = true) (hgv : (Jvm.Cond.and given_1 narrow_1).before #[Value.ref b] s = true) : ∃ ax : Nat → Nat, zx0 ax (fun q => s.heap.size ≤ q) s := by
  have hfl := flat_of_before _ hgv
  have hA : ∀ a : Nat, a < s.heap.size → ¬ (fun q => s.heap.size ≤ q) a := fun a h => Nat.not_le.mpr h
  obtain ⟨adK, adV, hS1, hS2⟩ := vk_Sof (args := #[Value.ref b]) (N := 1) (tm := fun _ => (.string "TentativeDesk$Tokens" 56)) (len := [9]) (byt := [sgB]) (A := fun q => s.heap.size ≤ q) (fun i hi => by rcases (show i = 0 by omega) with rfl; decide) (fun i hi => hfl _ (by decide +kernel)) (fun i hi => hfl _ (by decide +kernel)) (fun i hi => hfl _ (by decide +kernel)) (fun i hi => by rcases (show i = 0 by omega) with rfl; exact hfl _ (by decide +kernel)) (fun i hi j hj => by
      rcases (show i = 0 by omega) with rfl
      rcases (show j = 0 ∨ j = 1 ∨ j = 2 ∨ j = 3 ∨ j = 4 ∨ j = 5 ∨ j = 6 ∨ j = 7 ∨ j = 8 by have : j < 9 := hj; omega) with rfl | rfl | rfl | rfl | rfl | rfl | rfl | rfl | rfl <;> exact hfl _ (by decide +kernel)) (fun i j hi hj hne => absurd (by omega) hne) hA
  obtain ⟨t, ht, hT⟩ := va_Tof (args := #[Value.ref b]) (tm := (.static "TentativeDesk$Tokens" "WORDS" "[J")) (ty := .long) (N := 11) (f := fun j => .long (wdF j)) (A := fun q => s.heap.size ≤ q) (by decide) (hfl _ (by decide +kernel)) (va_eqt (hfl _ (by decide +kernel))) (fun j hj => by
      rcases (show j = 0 ∨ j = 1 ∨ j = 2 ∨ j = 3 ∨ j = 4 ∨ j = 5 ∨ j = 6 ∨ j = 7 ∨ j = 8 ∨ j = 9 ∨ j = 10 by omega) with rfl | rfl | rfl | rfl | rfl | rfl | rfl | rfl | rfl | rfl | rfl <;> exact va_eqtl (hfl _ (by decide +kernel))) hA
  refine ⟨fun k => if k = 0 then adK 0 else if k = 1 then adV 0 else t, ?_, ?_, ?_, ?_, hT⟩
  · exact vk_R.of (hts _ (List.mem_of_getElem? (i := 528) (by decide +kernel))) (hS2 0 (by decide))
  · refine ⟨fun i hi => ?_, fun i j hi hj _ => by omega⟩
    rcases (show i = 0 by omega) with rfl
    exact hS1.1 0 (by decide)
  · exact va_Zof (hts _ (List.mem_of_getElem? (i := 542) (by decide +kernel))) (hts _ (List.mem_of_getElem? (i := 126) (by decide +kernel))) (va_eqi (hfl _ (by decide +kernel))) hA
  · exact va_Zref (hts _ (List.mem_of_getElem? (i := 520) (by decide +kernel))) (hts _ (List.mem_of_getElem? (i := 118) (by decide +kernel))) ht hA
set_option maxRecDepth 100000 in
set_option maxHeartbeats 4000000 in
theorem law_start {Rel : Wd → Wd → Prop} (hSt : Steps Rel) {σ1 : Wd} (hb8 : M_X1_begin sg8 3 0 = some σ1) {τ1 : Wd} (h1 : M_X9_plain sg9 (0 : Int32) = some τ1) {τ2 : Wd} (h2 : M_X9_plain τ1 (1 : Int32) = some τ2) {τ3 : Wd} (h3 : M_X9_begins (uL (uL (uL (uL (uL (uL (uL (uL (uL (uL (uL τ2 7 (ix (0 : Int32)) (51339979 : Int64)) 7 (ix (1 : Int32)) (6462048238 : Int64)) 7 (ix (2 : Int32)) (63030 : Int64)) 7 (ix (3 : Int32)) (129532 : Int64)) 7 (ix (4 : Int32)) (7542361 : Int64)) 7 (ix (5 : Int32)) (378181 : Int64)) 7 (ix (6 : Int32)) (107681 : Int64)) 7 (ix (7 : Int32)) (377761 : Int64)) 7 (ix (8 : Int32)) (24 : Int64)) 7 (ix (9 : Int32)) (10492135 : Int64)) 7 (ix (10 : Int32)) (224982050 : Int64)) = some τ3) {τ4 : Wd} (h4 : M_X9_keepsRow τ3 = some τ4) (hR : Rel σ1 τ4) {p : Program} {e : Env} {s : State} {m : MethodId} {below : List Frame} {meth : Method} {c : Code} (l : Launch) {b L : Nat} {xs : Nat → Int32} (hL : L ≤ 3072) (C0 : lw_At p s m meth c b L xs) : W p l e room_1 s m #[Value.ref b] below meth c s.heap [] 0 0 (lw_Z below #[Value.ref b] s) (entryFrame m ([Value.ref b] : List Value).toArray 4) := by
  obtain ⟨hx, hb, hr, hml, hown, hts, hX, hbl, hlocks, hgv⟩ := id C0
  have htg : ∀ w ∈ gw_tbl, w.before #[Value.ref b] s = true := fun w h => hts w (List.mem_filter.mp h).1
  obtain ⟨D, cy, hK, hNW⟩ := law_words hts
  obtain ⟨ax, hzx⟩ := law_zx hts hgv
  have hl := lv_entry ([.ref b]) (n := 4) (Nat.le_of_ble_eq_true rfl)
  rw [lg_entry_eq]
  have hl : lv_has _ 4 [(0, .ref b)] := hl
  have C : Nx (p, l, e, room_1, s, m, #[Value.ref b], below, meth, c, 4, lw_Z below #[Value.ref b] s) D cy code R_law (fun q => s.heap.size ≤ q) 13 506 600000 7302250 := ⟨hx, hb, hml, hown, htg, hK, hlocks, Nat.le_refl _, Nat.le_refl _, Nat.le_refl _, Nat.le_refl _, fun q h => h, hNW⟩
  have hN := nl_of (K := (p, l, e, room_1, s, m, #[Value.ref b], below, meth, c, 4, lw_Z below #[Value.ref b] s)) rfl
  suffices G : Gn (p, l, e, room_1, s, m, #[Value.ref b], below, meth, c, 4, lw_Z below #[Value.ref b] s) D (fun q => s.heap.size ≤ q) [] 0 0 0 [(0, .ref b)] [] from G s.heap [] _ (fun k q h => by simp at h) ⟨fun i j p q h => by simp at h, fun k q h => by simp at h⟩ va_S.rf hl
  refine n_new (ci := 8) (fs := [.null, .int 0, .int 0, .null, .null, .null, .null, .null, .null, .null, .null, .null, .null]) C 0 in_X8 tyX8 tyX8_ok tw_134 tw_135 tw_115 rfl df_X8 (Nat.le_of_ble_eq_true rfl) (Nat.le_of_ble_eq_true rfl) dL_law_0 (fun q1 => n_know (fun hD1 => ?_))
  refine n_dup C 3 dL_law_3 rfl ?_
  have hq1 : s.heap.size ≤ q1 := hD1.2 0 _ rfl
  refine n_init (ws := []) (rest := [.ref q1]) C 4 [] tw_136 mw_X8 tw_137 rfl (i_X8 l D cy ax q1 hb8) (fun sz a U g mk h => zx0_calling h) (fun K2 hK2 H locs hP hS U hU hW => by
    subst hK2
    exact zx0_go (fun a ha => by
      rcases ha with ⟨k, e', hk⟩ | h
      · match k, hk with
        | 0, hk => cases hk; exact hq1
        | k + 1, hk => simp at hk
      · exact Nat.le_trans hS.1 h) hzx (fun a h1 h2 => by rw [hU]; exact hS.2.1 a h1 h2) hW) (Nat.le_of_ble_eq_true rfl) (Nat.le_of_ble_eq_true rfl) (Nat.le_of_ble_eq_true rfl) (Nat.le_of_ble_eq_true rfl) (Nat.le_of_ble_eq_true rfl) rfl dL_law_4 (fun u1 => ?_)
  refine n_astore_n (L' := [(1, .ref q1), (0, .ref b)]) C 7 dL_law_7 rfl (hN _ (Nat.le_of_ble_eq_true rfl)) rfl ?_
  refine n_new (ci := 9) (fs := [.int 0, .null, .int 0, .null, .int 0, .null, .null, .null, .null, .null, .int 0, .int 0, .int 0, .int 0, .int 0, .int 0, .int 0, .int 0, .int 0, .int 0, .int 0, .null, .null, .null, .null, .null, .null, .null, .null, .null, .null, .null, .null, .int 0, .null, .null, .null, .int 0, .null, .null, .int 0, .null, .null, .int 0, .null, .int 0, .null, .int 0, .null, .null, .null, .int 0, .null, .null, .null, .int 0, .int 0, .null, .null]) C 8 in_X9 tyX9 tyX9_ok tw_1245 tw_1246 tw_124 rfl df_X9 (Nat.le_of_ble_eq_true rfl) (Nat.le_of_ble_eq_true rfl) dL_law_8 (fun q2 => ?_)
  refine n_dup C 11 dL_law_11 rfl ?_
  refine n_init (ws := [] ++ zW (Zc (D, adz q1 u1, cy, ax)) σ1) (rest := [.ref q2]) C 12 [] tw_1247 mw_X9 tw_1248 rfl (i_X9 l D cy q2 h1 h2 h3 h4) (fun _ _ _ _ _ _ => trivial) (fun _ _ _ _ _ _ _ _ _ => trivial) (Nat.le_of_ble_eq_true rfl) (Nat.le_of_ble_eq_true rfl) (Nat.le_of_ble_eq_true rfl) (Nat.le_of_ble_eq_true rfl) (Nat.le_of_ble_eq_true rfl) rfl dL_law_12 (fun u2 => ?_)
  refine n_astore_n (L' := [(2, .ref q2), (1, .ref q1), (0, .ref b)]) C 15 dL_law_15 rfl (hN _ (Nat.le_of_ble_eq_true rfl)) rfl ?_
  refine n_iconst C 16 dL_law_16 ki_0 ?_
  refine n_istore_n (L' := [(3, .int (0 : Int32)), (2, .ref q2), (1, .ref q1), (0, .ref b)]) C 17 dL_law_17 rfl (hN _ (Nat.le_of_ble_eq_true rfl)) rfl ?_
  refine n_know (fun hD => ?_)
  obtain ⟨hZI, hz8, hz9, hdis⟩ := two_zones (Z1 := Zc (D, adz q1 u1, cy, ax)) (Z2 := Zm (D, adz q2 u2, cy, fun _ => 0)) (σ := σ1) (τ := τ4) hD
  have C9 : Lx (p, l, e, room_1, s, m, #[Value.ref b], below, meth, c, 4, lw_Z below #[Value.ref b] s) (D, adz q1 u1, cy, ax) (D, adz q2 u2, cy, fun _ => 0) b L xs := ⟨⟨hx, hb, hml, hown⟩, htg, ⟨hK, hK⟩, rfl, hZI, ⟨hz8, hz9, hdis⟩, hzx, hX, hbl⟩
  have hend : ∀ (σ τ : Wd) (L' : List (Nat × Value)), Gw (p, l, e, room_1, s, m, #[Value.ref b], below, meth, c, 4, lw_Z below #[Value.ref b] s) (D, adz q1 u1, cy, ax) (D, adz q2 u2, cy, fun _ => 0) σ τ 164 55201 1529 L' [] := by
    intro σ τ L' H locs ls hP hPm hS hl
    refine lv_iconst hx hb dL_law_1529 ki_1 ?_
    refine va_forget hS.2.2 ?_
    refine W.widen (k := 600000) (n := 7302250) (by decide) (by decide) ?_
    exact W.base (lw_ret (Drawn.sameBut.refl s.drawn lw_cs) hx hb hr hlocks dL_law_1530)
  intro H locs ls hP hDx hS hl
  obtain ⟨hP8, hP9⟩ := va_P_split (w1 := zW (Zc (D, adz q1 u1, cy, ax)) σ1) (w2 := zW (Zm (D, adz q2 u2, cy, fun _ => 0)) τ4) hP
  exact law_loop C9 rfl hSt hL (Nat.le_of_ble_eq_true rfl) (Nat.le_of_ble_eq_true rfl) hend 600 0 σ1 τ4 (by omega) (by omega) hR H locs ls hP8 hP9 hS (lv_sub hl [3, 2, 1, 0] rfl)
