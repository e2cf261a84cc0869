def R_law : String := "TentativeDeskLaw"
/-! the law: rows over both worlds at once -/
def Lx (K : Kt) (V8 : Ct_V) (V9 : Vt) (b LL : Nat) (xs : Nat → Int32) : Prop :=
  match K with
  | (p, _, _, R, s, m, args, _, meth, c, nL, _) => (p.tables.exec = Jvm.exec ∧ c.code = code ∧ c.maxLocals = nL ∧ s.vm.findClass R_law = some m.cls) ∧ (∀ w ∈ gw_tbl, w.before args s = true) ∧ (va_K V8.1 vwCl (T6 V8.2.2.1) s ∧ va_K V9.1 vwCl (T6 V9.2.2.1) s) ∧ R = room_1 ∧ (zI (Zc V8) ∧ zI (Zm V9)) ∧ ((∀ q, zS (Zc V8) q → s.heap.size ≤ q) ∧ (∀ q, zS (Zm V9) q → s.heap.size ≤ q) ∧ (∀ q, zS (Zc V8) q → ¬ zS (Zm V9) q)) ∧ zx0 V8.2.2.2 (fun q => s.heap.size ≤ q) s ∧ va_X b LL xs s s.heap ∧ b < s.heap.size
def Gw (K : Kt) (V8 : Ct_V) (V9 : Vt) (σ τ : Wd) (ce sl : Nat) (pc : Nat) (L : List (Nat × Value)) (st : List Value) : Prop :=
  match K with
  | (p, l, e, R, s, m, args, below, meth, c, nL, Q) => ∀ (H : Heap) (locs : List Loc) (ls : Array Slot), va_P V8.1 vwCl (zW (Zc V8) σ) H → va_P V9.1 vwCl (zW (Zm V9) τ) H → va_S (fun q => s.heap.size ≤ q) s.heap H locs → lv_has ls nL L → W p l e R s m args below meth c H locs ce sl Q (F0 m pc ls st)
section LR
variable {K : Kt} {V8 : Ct_V} {V9 : Vt} {b LL ce sl : Nat} {xs : Nat → Int32} {σ τ σ' τ' : Wd} {L : List (Nat × Value)} {rest : List Value}
theorem l_iconst (C : Lx K V8 V9 b LL xs) (pc : Nat) {n : Int} {v : Int32} (d : decode code pc = .ok (.iconst n, 1)) (hv : Int32.ofInt n = v) (k : Gw K V8 V9 σ τ ce sl (pc + 1) L (.int v :: rest)) : Gw K V8 V9 σ τ ce sl pc L rest := by
  obtain ⟨p, l, e, R, s, m, args, below, meth, c, nL, Q⟩ := K
  obtain ⟨⟨hx, hb, hml, hown⟩, C⟩ := C
  intro H locs ls hP hPm hS hl
  exact lv_iconst hx hb d hv (k H locs ls hP hPm hS hl)
theorem l_bipush (C : Lx K V8 V9 b LL xs) (pc : Nat) {n : Int} {v : Int32} (d : decode code pc = .ok (.bipush n, 2)) (hv : (Int8.ofInt n).toInt32 = v) (k : Gw K V8 V9 σ τ ce sl (pc + 2) L (.int v :: rest)) : Gw K V8 V9 σ τ ce sl pc L rest := by
  obtain ⟨p, l, e, R, s, m, args, below, meth, c, nL, Q⟩ := K
  obtain ⟨⟨hx, hb, hml, hown⟩, C⟩ := C
  intro H locs ls hP hPm hS hl
  exact lv_bipush hx hb d hv (k H locs ls hP hPm hS hl)
theorem l_aload_n (C : Lx K V8 V9 b LL xs) (pc : Nat) {q : Fin 4} {x : Nat} (j : Nat) (d : decode code pc = .ok (.aload_n q, 1)) (hj : L[j]? = some ((q : Nat), .ref x)) (k : Gw K V8 V9 σ τ ce sl (pc + 1) L (.ref x :: rest)) : Gw K V8 V9 σ τ ce sl pc L rest := by
  obtain ⟨p, l, e, R, s, m, args, below, meth, c, nL, Q⟩ := K
  obtain ⟨⟨hx, hb, hml, hown⟩, C⟩ := C
  intro H locs ls hP hPm hS hl
  exact lv_aload_n hx hb d rfl (lv_at hl j hj) (k H locs ls hP hPm hS hl)
theorem l_iload_n (C : Lx K V8 V9 b LL xs) (pc : Nat) {q : Fin 4} {x : Int32} (j : Nat) (d : decode code pc = .ok (.iload_n q, 1)) (hj : L[j]? = some ((q : Nat), .int x)) (k : Gw K V8 V9 σ τ ce sl (pc + 1) L (.int x :: rest)) : Gw K V8 V9 σ τ ce sl pc L rest := by
  obtain ⟨p, l, e, R, s, m, args, below, meth, c, nL, Q⟩ := K
  obtain ⟨⟨hx, hb, hml, hown⟩, C⟩ := C
  intro H locs ls hP hPm hS hl
  exact lv_iload_n hx hb d rfl (lv_at hl j hj) (k H locs ls hP hPm hS hl)
theorem l_iadd (C : Lx K V8 V9 b LL xs) (pc : Nat) {x y : Int32} (d : decode code pc = .ok (.iadd, 1)) (k : Gw K V8 V9 σ τ ce sl (pc + 1) L (.int (x + y) :: rest)) : Gw K V8 V9 σ τ ce sl pc L (.int y :: .int x :: rest) := by
  obtain ⟨p, l, e, R, s, m, args, below, meth, c, nL, Q⟩ := K
  obtain ⟨⟨hx, hb, hml, hown⟩, C⟩ := C
  intro H locs ls hP hPm hS hl
  exact lv_iadd hx hb d (k H locs ls hP hPm hS hl)
theorem l_isub (C : Lx K V8 V9 b LL xs) (pc : Nat) {x y : Int32} (d : decode code pc = .ok (.isub, 1)) (k : Gw K V8 V9 σ τ ce sl (pc + 1) L (.int (x - y) :: rest)) : Gw K V8 V9 σ τ ce sl pc L (.int y :: .int x :: rest) := by
  obtain ⟨p, l, e, R, s, m, args, below, meth, c, nL, Q⟩ := K
  obtain ⟨⟨hx, hb, hml, hown⟩, C⟩ := C
  intro H locs ls hP hPm hS hl
  exact lv_isub hx hb d (k H locs ls hP hPm hS hl)
theorem l_iand (C : Lx K V8 V9 b LL xs) (pc : Nat) {x y : Int32} (d : decode code pc = .ok (.iand, 1)) (k : Gw K V8 V9 σ τ ce sl (pc + 1) L (.int (x &&& y) :: rest)) : Gw K V8 V9 σ τ ce sl pc L (.int y :: .int x :: rest) := by
  obtain ⟨p, l, e, R, s, m, args, below, meth, c, nL, Q⟩ := K
  obtain ⟨⟨hx, hb, hml, hown⟩, C⟩ := C
  intro H locs ls hP hPm hS hl
  exact lv_iand hx hb d (k H locs ls hP hPm hS hl)
theorem l_goto (C : Lx K V8 V9 b LL xs) (pc tgt : Nat) {off : Int} (d : decode code pc = .ok (.goto off, 3)) (ht : (pc : Int) + off = (tgt : Int)) (k : Gw K V8 V9 σ τ ce sl tgt L rest) : Gw K V8 V9 σ τ ce sl pc L rest := by
  obtain ⟨p, l, e, R, s, m, args, below, meth, c, nL, Q⟩ := K
  obtain ⟨⟨hx, hb, hml, hown⟩, C⟩ := C
  intro H locs ls hP hPm hS hl
  exact lv_goto hx hb d ht (k H locs ls hP hPm hS hl)
theorem l_iinc (C : Lx K V8 V9 b LL xs) (pc : Nat) {i : Nat} (j : Nat) {n : Int} {x v : Int32} {L' : List (Nat × Value)} (d : decode code pc = .ok (.iinc i n, 3)) (hj : L[j]? = some (i, .int x)) (hv : x + Int32.ofInt n = v) (hn : ∀ K2 : Kt, K = K2 → i < K2.2.2.2.2.2.2.2.2.2.2.1) (hl : (i, Value.int v) :: L.filter (fun q => !(q.1 == i) && !(q.1 + 1 == i && q.2.category == 2)) = L') (k : Gw K V8 V9 σ τ ce sl (pc + 3) L' rest) : Gw K V8 V9 σ τ ce sl pc L rest := by
  obtain ⟨p, l, e, R, s, m, args, below, meth, c, nL, Q⟩ := K
  obtain ⟨⟨hx, hb, hml, hown⟩, C⟩ := C
  intro H locs ls hP hPm hS hl2
  exact lv_iinc hx hb d hl2 hj hv (hn _ rfl) hl (fun ls2 h2 => k H locs ls2 hP hPm hS h2)
theorem l_sub (C : Lx K V8 V9 b LL xs) {pc : Nat} {L' : List (Nat × Value)} (ks : List Nat) (h : lv_pick L ks = L') (k : Gw K V8 V9 σ τ ce sl pc L' rest) : Gw K V8 V9 σ τ ce sl pc L rest := by
  obtain ⟨p, l, e, R, s, m, args, below, meth, c, nL, Q⟩ := K
  intro H locs ls hP hPm hS hl
  exact k H locs ls hP hPm hS (lv_sub hl ks h)
theorem l_gt (C : Lx K V8 V9 b LL xs) (pc tgt : Nat) {x y : Int32} {off : Int} (d : decode code pc = .ok (.if_icmp .gt off, 3)) (ht : (pc : Int) + off = (tgt : Int)) (kt : y < x → Gw K V8 V9 σ τ ce sl tgt L rest) (kf : ¬ y < x → Gw K V8 V9 σ τ ce sl (pc + 3) L rest) : Gw K V8 V9 σ τ ce sl pc L (.int y :: .int x :: rest) := by
  obtain ⟨p, l, e, R, s, m, args, below, meth, c, nL, Q⟩ := K
  obtain ⟨⟨hx, hb, hml, hown⟩, C⟩ := C
  intro H locs ls hP hPm hS hl
  exact lv_icmp_gt hx hb d ht (fun h => kt h H locs ls hP hPm hS hl) (fun h => kf h H locs ls hP hPm hS hl)
theorem l_eq (C : Lx K V8 V9 b LL xs) (pc tgt : Nat) {x : Int32} {off : Int} (d : decode code pc = .ok (.if_icmp .eq off, 3)) (ht : (pc : Int) + off = (tgt : Int)) (k : Gw K V8 V9 σ τ ce sl tgt L rest) : Gw K V8 V9 σ τ ce sl pc L (.int x :: .int x :: rest) := by
  obtain ⟨p, l, e, R, s, m, args, below, meth, c, nL, Q⟩ := K
  obtain ⟨⟨hx, hb, hml, hown⟩, C⟩ := C
  intro H locs ls hP hPm hS hl
  exact lv_icmp_eq hx hb d ht (fun h => k H locs ls hP hPm hS hl) (fun h => absurd rfl h)
theorem l_tswIn (C : Lx K V8 V9 b LL xs) (pc tgt : Nat) {dflt a bb off : Int} {offs : Array Int} {len : Nat} {x : Int32} (v : Int32) (hv : x = v) (d : decode code pc = .ok (.tableswitch dflt a bb offs, len)) (h1 : ¬ v.toInt < a) (h2 : ¬ bb < v.toInt) (ho : offs[(v.toInt - a).toNat]? = some off) (ht : (pc : Int) + off = (tgt : Int)) (k : Gw K V8 V9 σ τ ce sl tgt L rest) : Gw K V8 V9 σ τ ce sl pc L (.int x :: rest) := by
  subst hv
  obtain ⟨p, l, e, R, s, m, args, below, meth, c, nL, Q⟩ := K
  obtain ⟨⟨hx, hb, hml, hown⟩, C⟩ := C
  intro H locs ls hP hPm hS hl
  exact lv_tableIn hx hb d h1 h2 ho ht (k H locs ls hP hPm hS hl)
theorem l_tswOut (C : Lx K V8 V9 b LL xs) (pc tgt : Nat) {dflt a bb : Int} {offs : Array Int} {len : Nat} {x : Int32} (d : decode code pc = .ok (.tableswitch dflt a bb offs, len)) (h1 : x.toInt < a ∨ bb < x.toInt) (ht : (pc : Int) + dflt = (tgt : Int)) (k : Gw K V8 V9 σ τ ce sl tgt L rest) : Gw K V8 V9 σ τ ce sl pc L (.int x :: rest) := by
  obtain ⟨p, l, e, R, s, m, args, below, meth, c, nL, Q⟩ := K
  obtain ⟨⟨hx, hb, hml, hown⟩, C⟩ := C
  intro H locs ls hP hPm hS hl
  exact lv_tableOut hx hb d h1 ht (k H locs ls hP hPm hS hl)
theorem l_slen (C : Lx K V8 V9 b LL xs) (pc : Nat) (d : decode code pc = .ok (.arraylength, 1)) (k : Gw K V8 V9 σ τ ce sl (pc + 1) L (.int (Int32.ofNat LL) :: rest)) : Gw K V8 V9 σ τ ce sl pc L (.ref b :: rest) := by
  obtain ⟨p, l, e, R, s, m, args, below, meth, c, nL, Q⟩ := K
  obtain ⟨⟨hx, hb, hml, hown⟩, -, -, -, -, -, -, hX, hbl⟩ := C
  intro H locs ls hP hPm hS hl
  exact va_slen hx hb hX hbl (Nat.not_le.mpr hbl) hS d (k H locs ls hP hPm hS hl)
theorem l_sld (C : Lx K V8 V9 b LL xs) (pc : Nat) {i : Int32} (j : Nat) (hi : i = nI j) (hj : j < LL) (hL : LL ≤ 3072) (d : decode code pc = .ok (.iaload, 1)) (k : Gw K V8 V9 σ τ ce sl (pc + 1) L (.int (xs j) :: rest)) : Gw K V8 V9 σ τ ce sl pc L (.int i :: .ref b :: rest) := by
  obtain ⟨p, l, e, R, s, m, args, below, meth, c, nL, Q⟩ := K
  obtain ⟨⟨hx, hb, hml, hown⟩, -, -, -, -, -, -, hX, hbl⟩ := C
  intro H locs ls hP hPm hS hl
  subst hi
  have hc : (nI j).toNatClampNeg = j := nI_clamp (by omega)
  have hk := k H locs ls hP hPm hS hl
  exact va_sld hx hb hX hbl (Nat.not_le.mpr hbl) hS (vp_in_nI hj (by omega)) d (by rw [hc]; exact hk)
/-- an argument out of the script -/
theorem l_arg (C : Lx K V8 V9 b LL xs) (pc i k : Nat) {q0 q3 : Fin 4} {n : Int} (j0 j3 : Nat) (d0 : decode code pc = .ok (.aload_n q0, 1)) (d1 : decode code (pc + 1) = .ok (.iload_n q3, 1)) (d2 : decode code (pc + 2) = .ok (.iconst n, 1)) (d3 : decode code (pc + 3) = .ok (.iadd, 1)) (d4 : decode code (pc + 4) = .ok (.iaload, 1)) (h0 : L[j0]? = some ((q0 : Nat), .ref b)) (h3 : L[j3]? = some ((q3 : Nat), .int (nI i))) (hn : Int32.ofInt n = nI k) (hi : i + k < LL) (hL : LL ≤ 3072) (kk : Gw K V8 V9 σ τ ce sl (pc + 5) L (.int (xs (i + k)) :: rest)) : Gw K V8 V9 σ τ ce sl pc L rest :=
  l_aload_n C pc j0 d0 h0 (l_iload_n C (pc + 1) j3 d1 h3 (l_iconst C (pc + 2) d2 hn (l_iadd C (pc + 3) d3 (l_sld C (pc + 4) (i + k) (nI_add i k) hi hL d4 kk))))
abbrev bI (x : Int32) : Int32 := if x = 0 then 0 else 1
/-- an argument that is asked whether it is 0 -/
theorem l_bool (C : Lx K V8 V9 b LL xs) (pc : Nat) {x : Int32} (d0 : decode code pc = .ok (.ifCond .eq 7, 3)) (d1 : decode code (pc + 3) = .ok (.iconst 1, 1)) (d2 : decode code (pc + 4) = .ok (.goto 4, 3)) (d3 : decode code (pc + 7) = .ok (.iconst 0, 1)) (kk : Gw K V8 V9 σ τ ce sl (pc + 8) L (.int (bI x) :: rest)) : Gw K V8 V9 σ τ ce sl pc L (.int x :: rest) := by
  by_cases h : x = 0
  · have e : bI x = 0 := if_pos h
    rw [e] at kk
    have k2 := l_iconst C (pc + 7) d3 (rfl : Int32.ofInt 0 = 0) kk
    obtain ⟨p, l, e, R, s, m, args, below, meth, c, nL, Q⟩ := K
    obtain ⟨⟨hx, hb, hml, hown⟩, C⟩ := C
    intro H locs ls hP hPm hS hl
    exact lv_if_eq hx hb d0 (tgt := pc + 7) (by omega) (fun _ => k2 H locs ls hP hPm hS hl) (fun h2 => absurd h h2)
  · have e : bI x = 1 := if_neg h
    rw [e] at kk
    have k2 := l_iconst C (pc + 3) d1 (rfl : Int32.ofInt 1 = 1) (l_goto C (pc + 4) (pc + 8) d2 (by omega) kk)
    obtain ⟨p, l, e, R, s, m, args, below, meth, c, nL, Q⟩ := K
    obtain ⟨⟨hx, hb, hml, hown⟩, C⟩ := C
    intro H locs ls hP hPm hS hl
    exact lv_if_eq hx hb d0 (tgt := pc + 7) (by omega) (fun h2 => absurd h2 h) (fun _ => k2 H locs ls hP hPm hS hl)
theorem l_callX (C : Lx K V8 V9 b LL xs) (pc : Nat) {idx : Nat} {y : MethodName} {bb : ByteArray} {n : Nat} {ret : Option FieldType} {f2 l2 : Nat} {r : Int32} {st : List Value} (As rest : List Value) (hst : st = As.reverse ++ .ref (zA (Zc V8) 0) :: rest) (hlink : Cond.methodLink R_law idx y ∈ gw_tbl) (hm : Mv y bb n ret As.length) (hy : y.cls = RX8) (hfr2 : f2 + 1 ≤ 13) (hlo2 : 8 + (n + 11) + l2 ≤ 506) (hce : ce ≤ 600000) (hsl : sl ≤ 7302250) (hrest : (rest.map fun v => v.category).sum ≤ 8) (d : decode code pc = .ok (.invokevirtual idx, 3)) (hM : Ct (Kl K) (Zc V8) y bb n ret f2 l2 (.ref (zA (Zc V8) 0) :: As) σ (some (.int r)) σ') (k : Gw K V8 V9 σ' τ ce sl (pc + 3) L (.int r :: rest)) : Gw K V8 V9 σ τ ce sl pc L st := by
  subst hst
  obtain ⟨p, l, e, R, s, m, args, below, meth, c, nL, Q⟩ := K
  obtain ⟨⟨hx, hb, hml, hown⟩, hts, ⟨hK8, hK9⟩, hR, ⟨hZ8, hZ9⟩, ⟨hz8, hz9, hdis⟩, hzx, hX, hbl⟩ := C
  intro H locs ls hP hPm hS hl
  have hf : f2 + 1 ≤ R.frames := by rw [hR]; exact hfr2
  have hw : 8 + (n + 11) + l2 ≤ R.locals := by rw [hR]; exact hlo2
  have hc1 : ce + 0 ≤ R.cells := by rw [hR]; exact hce
  have hs1 : sl + 0 ≤ R.slots := by rw [hR]; exact hsl
  have cw : CallW R s args R_law y.cls idx y bb n ret (.code y bb n ret :: gw_tbl) { frames := f2, cells := 0, slots := 0, locals := l2 } 0 0 As.length := ⟨hm.1.callB hts hlink hf hw, hts _ hm.2.1, hts _ hm.2.2⟩
  refine W_callZ (A := fun q => s.heap.size ≤ q) (va_runV (As := As) (rest := rest) ⟨hx, hb, hml, hown, hts⟩ hM cw ⟨zU_blind zc_ok, by rw [hy]; exact va_recv hK8 hP (ci := 8) (q := (RX8, TX8, 13)) rfl (zW_e (i := 0) (Nat.le_of_ble_eq_true rfl) (kc_0 V8 σ)), fun U hU hW => ⟨rfl, zU_at2 zc_ok (fun U hU hW => zx0_go hz8 hzx (fun a h1 h2 => by rw [hU]; exact hS.2.1 a h1 h2) hW) hK8 hZ8 hP U hU hW⟩⟩ rfl rfl hl.1 rfl (lv_room hrest) d ⟨hc1, hs1⟩) hS hz8 (fun H1 locs1 hP1 hS1 hz hk => k H1 locs1 ls hP1 (fun j q hq => (hPm j q hq).kept (hk q.1 (hPm j q hq).lt (fun z => hdis q.1 z ((zD hZ9 τ).2 j q hq)))) hS1 hl)
theorem l_callM (C : Lx K V8 V9 b LL xs) (pc : Nat) {idx : Nat} {y : MethodName} {bb : ByteArray} {n : Nat} {ret : Option FieldType} {f2 l2 : Nat} {r : Int32} {st : List Value} (As rest : List Value) (hst : st = As.reverse ++ .ref (zA (Zm V9) 0) :: rest) (hlink : Cond.methodLink R_law idx y ∈ gw_tbl) (hm : Mv y bb n ret As.length) (hy : y.cls = RX9) (hfr2 : f2 + 1 ≤ 13) (hlo2 : 8 + (n + 11) + l2 ≤ 506) (hce : ce ≤ 600000) (hsl : sl ≤ 7302250) (hrest : (rest.map fun v => v.category).sum ≤ 8) (d : decode code pc = .ok (.invokevirtual idx, 3)) (hM : Ct (Kl K) (Zm V9) y bb n ret f2 l2 (.ref (zA (Zm V9) 0) :: As) τ (some (.int r)) τ') (k : Gw K V8 V9 σ τ' ce sl (pc + 3) L (.int r :: rest)) : Gw K V8 V9 σ τ ce sl pc L st := by
  subst hst
  obtain ⟨p, l, e, R, s, m, args, below, meth, c, nL, Q⟩ := K
  obtain ⟨⟨hx, hb, hml, hown⟩, hts, ⟨hK8, hK9⟩, hR, ⟨hZ8, hZ9⟩, ⟨hz8, hz9, hdis⟩, hzx, hX, hbl⟩ := C
  intro H locs ls hP hPm hS hl
  have hf : f2 + 1 ≤ R.frames := by rw [hR]; exact hfr2
  have hw : 8 + (n + 11) + l2 ≤ R.locals := by rw [hR]; exact hlo2
  have hc1 : ce + 0 ≤ R.cells := by rw [hR]; exact hce
  have hs1 : sl + 0 ≤ R.slots := by rw [hR]; exact hsl
  have cw : CallW R s args R_law y.cls idx y bb n ret (.code y bb n ret :: gw_tbl) { frames := f2, cells := 0, slots := 0, locals := l2 } 0 0 As.length := ⟨hm.1.callB hts hlink hf hw, hts _ hm.2.1, hts _ hm.2.2⟩
  refine W_callZ (A := fun q => s.heap.size ≤ q) (va_runV (As := As) (rest := rest) ⟨hx, hb, hml, hown, hts⟩ hM cw ⟨zU_blind zm_ok, by rw [hy]; exact va_recv hK9 hPm (ci := 9) (q := (RX9, TX9, 59)) rfl (zW_e (i := 0) (Nat.le_of_ble_eq_true rfl) (km_0 V9 τ)), fun U hU hW => ⟨rfl, zU_at2 zm_ok (fun _ _ _ => trivial) hK9 hZ9 hPm U hU hW⟩⟩ rfl rfl hl.1 rfl (lv_room hrest) d ⟨hc1, hs1⟩) hS hz9 (fun H1 locs1 hPm1 hS1 hz hk => k H1 locs1 ls (fun j q hq => (hP j q hq).kept (hk q.1 (hP j q hq).lt (fun z => hdis q.1 ((zD hZ8 σ).2 j q hq) z))) hPm1 hS1 hl)
end LR
