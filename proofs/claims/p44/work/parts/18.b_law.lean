/-! the law behind its beginning: the class's world and, beside it, cells that no longer change: the script's ints, the Net, what was in the cells at first, the forms -/
/-- how many forms; the ints drawn; the Net's ints; what was in the cells at first; how each form is; references that are not followed -/
abbrev Lq : Type := Nat × (Nat → Int32) × (Nat → Int32) × (Nat → Int32) × (Nat → Nat → Int32) × (Nat → Nat → Option Nat) × (Nat → Nat)
def lM (q : Lq) : Nat := min q.1 4
def lX (q : Lq) (j : Nat) : Int32 := q.2.1 j
def lZ (q : Lq) (j : Nat) : Int32 := q.2.2.1 j
def lF (q : Lq) (j : Nat) : Int32 := q.2.2.2.1 j
def lH (q : Lq) (f j : Nat) : Int32 := q.2.2.2.2.1 f j
def lG (q : Lq) (f j : Nat) : Option Nat := q.2.2.2.2.2.1 f j
def lR (q : Lq) (j : Nat) : Nat := q.2.2.2.2.2.2 j
def netF (A : Nat → Nat) (q : Lq) : List Value := [.int (lZ q 0), .int (lZ q 1), .int (lZ q 2), .int (lZ q 3), .int (lZ q 4), .int (lZ q 5), .int (lZ q 6), .int (lZ q 7), .ref (A 2), .ref (A 3), .ref (lR q 10), .ref (lR q 11), .ref (lR q 12), .ref (lR q 13), .ref (lR q 14), .ref (lR q 15), .ref (lR q 16), .ref (lR q 17), .ref (lR q 18), .ref (lR q 19), .ref (lR q 20), .ref (lR q 21), .ref (lR q 22), .int (lZ q 23)]
def e2 (A : Nat → Nat) (q : Lq) (cy : Nat → ClassId) (i : Nat) : va_E :=
  if i = 0 then .inl (cy 1, 44, .inl (lX q))
  else if i = 1 then .inr (9, netF A q)
  else if i = 2 then .inl (cy 1, 4, .inl (lF q))
  else if i = 3 then .inl (cy 7, 4, .inr (.inr (.inr (.inr (fun f => if f < lM q then some (A (4 + 2 * f)) else none)))))
  else if i % 2 = 0 then .inl (cy 6, 5, .inr (.inr (.inr (.inr (fun j => if j = 0 then some (A (i + 1)) else lG q ((i - 4) / 2) j)))))
  else .inl (cy 1, 3, .inl (lH q ((i - 5) / 2)))
def adL (V : Ct_V) (A : Nat → Nat) (i : Nat) : Nat := if i < 127 then V.2.1 i else A (i - 127)
def Zl (V : Ct_V) (A : Nat → Nat) (q : Lq) : Zt := (V.1, adL V A, V.2.2.1, 131 + 2 * lM q, fun i => if i < 127 then (cellsC V.2.1 V.2.2.1).getD i (fun _ _ _ => .inr (0, [])) else fun _ _ _ => e2 A q V.2.2.1 (i - 127), fun U => zx0 V.2.2.2 (fun a => ∃ i, i < 131 + 2 * lM q ∧ a = adL V A i) U)
theorem zl_ok {V : Ct_V} {A : Nat → Nat} {q : Lq} : zXok (Zl V A q) :=
  ⟨fun _ _ h hF hW => zx0_go (fun _ h => h) h (fun a h1 h2 => hF.2 a h1 h2) hW, fun _ _ _ _ h => zx0_calling h⟩
theorem zl_at {V : Ct_V} {A : Nat → Nat} {q : Lq} {σ : Wd} {i : Nat} (h : i < 4 + 2 * lM q) : (zW (Zl V A q) σ)[127 + i]? = some (A i, e2 A q V.2.2.1 i) := by
  rw [zW_at (show 127 + i < zN (Zl V A q) by show 127 + i < 131 + 2 * lM q; omega)]
  congr 1
  show (adL V A (127 + i), (if 127 + i < 127 then (cellsC V.2.1 V.2.2.1).getD (127 + i) (fun _ _ _ => .inr (0, [])) else fun _ _ _ => e2 A q V.2.2.1 (127 + i - 127)) (σ.1 (127 + i)) (σ.2.1 (127 + i)) (σ.2.2 (127 + i))) = _
  unfold adL
  rw [if_neg (by omega), if_neg (by omega), Nat.add_sub_cancel_left]
/-- the class's world within it -/
theorem zl_P {V : Ct_V} {A : Nat → Nat} {q : Lq} {σ : Wd} {H : Heap} (h : va_P V.1 vwCl (zW (Zl V A q) σ) H) : va_P V.1 vwCl (zW (Zc V) σ) H := by
  intro k x hx
  have hk : k < 127 := by
    have := (List.getElem?_eq_some_iff.mp hx).1
    simpa [zW, Zc, zN] using this
  refine h k x ?_
  rw [zW_at (show k < zN (Zl V A q) by show k < 131 + 2 * lM q; omega)]
  rw [zW_at (show k < zN (Zc V) from hk)] at hx
  rw [← hx]
  congr 1
  show (adL V A k, (if k < 127 then (cellsC V.2.1 V.2.2.1).getD k (fun _ _ _ => .inr (0, [])) else fun _ _ _ => e2 A q V.2.2.1 (k - 127)) (σ.1 k) (σ.2.1 k) (σ.2.2 k)) = _
  unfold adL
  rw [if_pos hk, if_pos hk]
  rfl
theorem zl_S {V : Ct_V} {A : Nat → Nat} {q : Lq} : ∀ a, zS (Zc V) a → zS (Zl V A q) a := by
  rintro a ⟨i, hi, rfl⟩
  have hi : i < 127 := hi
  refine ⟨i, by show i < 131 + 2 * lM q; omega, ?_⟩
  show V.2.1 i = adL V A i
  unfold adL
  rw [if_pos hi]
theorem zl_I {V : Ct_V} {A : Nat → Nat} {q : Lq} (h : zI (Zl V A q)) : zI (Zc V) := by
  intro i j hi hj e
  have hi : i < 127 := hi
  have hj : j < 127 := hj
  refine h i j (by show i < 131 + 2 * lM q; omega) (by show j < 131 + 2 * lM q; omega) ?_
  show adL V A i = adL V A j
  unfold adL
  rw [if_pos hi, if_pos hj]
  exact e
/-- what a call of the class's leaves stands for the whole -/
theorem zl_join {V : Ct_V} {A : Nat → Nat} {q : Lq} {σ σ' : Wd} {H H1 : Heap} (hI : zI (Zl V A q)) (h : va_P V.1 vwCl (zW (Zl V A q) σ) H) (h1 : va_P V.1 vwCl (zW (Zc V) σ') H1) (hk : ∀ a, a < H.size → ¬ zS (Zc V) a → H1[a]? = H[a]?) : va_P V.1 vwCl (zW (Zl V A q) σ') H1 := by
  intro k x hx
  have hk2 : k < 131 + 2 * lM q := by
    have := (List.getElem?_eq_some_iff.mp hx).1
    simpa [zW, Zl, zN] using this
  by_cases hc : k < 127
  · refine h1 k x ?_
    rw [zW_at (show k < zN (Zc V) from hc)]
    rw [zW_at (show k < zN (Zl V A q) from hk2)] at hx
    rw [← hx]
    congr 1
    show _ = (adL V A k, (if k < 127 then (cellsC V.2.1 V.2.2.1).getD k (fun _ _ _ => .inr (0, [])) else fun _ _ _ => e2 A q V.2.2.1 (k - 127)) (σ'.1 k) (σ'.2.1 k) (σ'.2.2 k))
    unfold adL
    rw [if_pos hc, if_pos hc]
    rfl
  · have e : k = 127 + (k - 127) := by omega
    rw [e, zl_at (by omega)] at hx
    have hx0 : (zW (Zl V A q) σ)[127 + (k - 127)]? = some x := by rw [zl_at (by omega)]; exact hx
    have hP := h _ x hx0
    refine hP.kept (hk _ hP.lt ?_)
    rintro ⟨i, hi, e2⟩
    have hi : i < 127 := hi
    have hxe : x.1 = adL V A k := by
      cases hx
      show A (k - 127) = adL V A k
      unfold adL
      rw [if_neg hc]
    have := hI k i hk2 (by show i < 131 + 2 * lM q; omega) (by
      show adL V A k = adL V A i
      rw [← hxe, e2]
      show V.2.1 i = adL V A i
      unfold adL
      rw [if_pos hi])
    omega
section XL
variable {ρ : Type} {K : Kt} {V : Ct_V} {A : Nat → Nat} {q : Lq} {cc : ByteArray} {own : String} {fr lo : Nat} {prog : Option ρ} {E : ρ → Prop} {σ σ' : Wd} {L : List (Nat × Value)} {rest : List Value}
theorem x_callLV (C : Fx K (Zl V A q) cc own fr lo) (pc : Nat) {idx : Nat} {y : MethodName} {b : ByteArray} {n : Nat} {ret : Option FieldType} {f2 l2 : Nat} {rv : Option Value} {st : List Value} (As rest : List Value) (hst : st = As.reverse ++ .ref (zA (Zl V A q) 0) :: rest) (hlink : Cond.methodLink own idx y ∈ gw_tbl) (hm : Mv y b n ret As.length) (hcl : y.cls = RX8) (hfr2 : f2 + 1 ≤ fr) (hlo2 : 8 + (n + 11) + l2 ≤ lo) (hrest : (rest.map fun v => v.category).sum ≤ 8) (d : decode cc pc = .ok (.invokevirtual idx, 3)) (hM : Ct (Kl K) (Zc V) y b n ret f2 l2 (.ref (zA (Zc V) 0) :: As) σ rv σ') (k : Y K (Zl V A q) prog E σ' (pc + 3) L (rv.toList ++ rest)) : Y K (Zl V A q) prog E σ pc L st := by
  subst hst
  refine Y.of ?_ k
  obtain ⟨p, l, e, R, s, m, args, below, meth, c, nL, Q, ce0, sl0⟩ := K
  obtain ⟨hx, hb, hml, hown, hts, hK, hZ, hlk, hfr, hlo, hzx, hok, hce, hsl⟩ := C
  intro g H locs ls hP hS hl
  have cw : CallW R s args own y.cls idx y b n ret (.code y b n ret :: gw_tbl) { frames := f2, cells := 0, slots := 0, locals := l2 } 0 0 As.length := ⟨hm.1.callB hts hlink (Nat.le_trans hfr2 hfr) (Nat.le_trans hlo2 hlo), hts _ hm.2.1, hts _ hm.2.2⟩
  have hPc : va_P V.1 vwCl (zW (Zc V) σ) H := zl_P hP
  refine W_callZ (A := zS (Zl V A q)) (va_runV (As := As) (rest := rest) ⟨hx, hb, hml, hown, hts⟩ hM cw ⟨zU_blind zc_ok, by rw [hcl]; exact va_recv hK hPc (ci := 8) (q := (RX8, TX8, 13)) rfl (zW_e (i := 0) (Nat.le_of_ble_eq_true rfl) (kc_0 V σ)), fun U hU hW => ⟨rfl, zU_at2 zc_ok (fun U hU hW => zx0_go (fun a h => zl_S a h) hzx (fun a h1 h2 => by rw [hU]; exact hS.2.1 a h1 h2) hW) hK (zl_I hZ) hPc U hU hW⟩⟩ rfl rfl hl.1 rfl (lv_room hrest) d ⟨hce, hsl⟩) hS zl_S (fun H1 locs1 hP1 hS1 _ hk => g H1 locs1 ls (zl_join hZ hP hP1 hk) hS1 hl)
theorem x_callLS (C : Fx K (Zl V A q) cc own fr lo) (pc : Nat) {idx : Nat} {y : MethodName} {b : ByteArray} {n : Nat} {ret : Option FieldType} {f2 l2 : Nat} {rv : Option Value} {st : List Value} (As rest : List Value) (hst : st = As.reverse ++ rest) (hlink : Cond.methodLink own idx y ∈ gw_tbl) (hm : Ms y b n ret As.length) (hfr2 : f2 + 1 ≤ fr) (hlo2 : 8 + (n + 11) + l2 ≤ lo) (hrest : (rest.map fun v => v.category).sum ≤ 8) (d : decode cc pc = .ok (.invokestatic idx, 3)) (hM : Ct (Kl K) (Zc V) y b n ret f2 l2 As σ rv σ') (k : Y K (Zl V A q) prog E σ' (pc + 3) L (rv.toList ++ rest)) : Y K (Zl V A q) prog E σ pc L st := by
  subst hst
  refine Y.of ?_ k
  obtain ⟨p, l, e, R, s, m, args, below, meth, c, nL, Q, ce0, sl0⟩ := K
  obtain ⟨hx, hb, hml, hown, hts, hK, hZ, hlk, hfr, hlo, hzx, hok, hce, hsl⟩ := C
  intro g H locs ls hP hS hl
  have cw : CallB R s args own idx y b n ret (.code y b n ret :: gw_tbl) { frames := f2, cells := 0, slots := 0, locals := l2 } 0 0 As.length ∧ (Cond.static y).before args s = true := ⟨hm.1.callB hts hlink (Nat.le_trans hfr2 hfr) (Nat.le_trans hlo2 hlo), hts _ hm.2⟩
  have hPc : va_P V.1 vwCl (zW (Zc V) σ) H := zl_P hP
  refine W_callZ (A := zS (Zl V A q)) (va_runS (As := As) (rest := rest) ⟨hx, hb, hml, hown, hts⟩ hM cw ⟨zU_blind zc_ok, fun U hU hW => ⟨rfl, zU_at2 zc_ok (fun U hU hW => zx0_go (fun a h => zl_S a h) hzx (fun a h1 h2 => by rw [hU]; exact hS.2.1 a h1 h2) hW) hK (zl_I hZ) hPc U hU hW⟩⟩ rfl rfl hl.1 rfl (lv_room hrest) d ⟨hce, hsl⟩) hS zl_S (fun H1 locs1 hP1 hS1 _ hk => g H1 locs1 ls (zl_join hZ hP hP1 hk) hS1 hl)
theorem x_script (C : Fx K (Zl V A q) cc own fr lo) (pc : Nat) {j : Int32} (d : decode cc pc = .ok (.iaload, 1)) (k : ib j 44 → Y K (Zl V A q) prog E σ (pc + 1) L (.int (lX q (ix j)) :: rest)) : Y K (Zl V A q) (chk (ib j 44) prog) E σ pc L (.int j :: .ref (A 0) :: rest) := by
  refine Y_chk (fun hj => ?_)
  have k := k hj
  refine Y.of ?_ k
  obtain ⟨p, l, e, R, s, m, args, below, meth, c, nL, Q, ce0, sl0⟩ := K
  obtain ⟨hx, hb, hml, hown, hts, hK, hZ, hlk, hfr, hlo, hzx, hok, hce, hsl⟩ := C
  intro g H locs ls hP hS hl
  exact va_iald hx hb hK hP (127 + 0) 1 (zl_at (by omega)) rfl hj d (g H locs ls hP hS hl)
theorem x_first (C : Fx K (Zl V A q) cc own fr lo) (pc : Nat) {j : Int32} (d : decode cc pc = .ok (.iaload, 1)) (k : ib j 4 → Y K (Zl V A q) prog E σ (pc + 1) L (.int (lF q (ix j)) :: rest)) : Y K (Zl V A q) (chk (ib j 4) prog) E σ pc L (.int j :: .ref (A 2) :: rest) := by
  refine Y_chk (fun hj => ?_)
  have k := k hj
  refine Y.of ?_ k
  obtain ⟨p, l, e, R, s, m, args, below, meth, c, nL, Q, ce0, sl0⟩ := K
  obtain ⟨hx, hb, hml, hown, hts, hK, hZ, hlk, hfr, hlo, hzx, hok, hce, hsl⟩ := C
  intro g H locs ls hP hS hl
  exact va_iald hx hb hK hP (127 + 2) 1 (zl_at (by omega)) rfl hj d (g H locs ls hP hS hl)
theorem lM_4 (q : Lq) : lM q ≤ 4 := Nat.min_le_right _ _
theorem ib_lt {j : Int32} {n : Nat} (h : ib j n) : ix j < n := Nat.not_le.mp (fun z => h (Or.inr z))
theorem ib_up {j : Int32} {n m : Nat} (hnm : n ≤ m) (h : ib j n) : ib j m := fun z => by
  rcases z with z | z
  · exact h (Or.inl z)
  · exact h (Or.inr (Nat.le_trans hnm z))
theorem x_form (C : Fx K (Zl V A q) cc own fr lo) (pc : Nat) {j : Int32} (hj : ib j (lM q)) (d : decode cc pc = .ok (.aaload, 1)) (k : Y K (Zl V A q) prog E σ (pc + 1) L (.ref (A (4 + 2 * ix j)) :: rest)) : Y K (Zl V A q) prog E σ pc L (.int j :: .ref (A 3) :: rest) := by
  have e : zY (Zl V A q) 130 σ = e2 A q V.2.2.1 3 := rfl
  refine x_ald C pc (i := 130) (t0 := 7) (n := 4) (f := fun f => if f < lM q then some (A (4 + 2 * f)) else none) (cA := V.2.2.1 7) (ty := .array (.array .int)) (by show 130 < 131 + 2 * lM q; omega) e rfl rfl (ib_up (lM_4 q) hj) (if_pos (ib_lt hj)) d k
theorem x_formf (C : Fx K (Zl V A q) cc own fr lo) (pc : Nat) {j : Int32} (hj : ib j (lM q)) (d : decode cc pc = .ok (.aaload, 1)) (k : Y K (Zl V A q) prog E σ (pc + 1) L (.ref (A (4 + 2 * ix j + 1)) :: rest)) : Y K (Zl V A q) prog E σ pc L (.int (0 : Int32) :: .ref (A (4 + 2 * ix j)) :: rest) := by
  have hlt := ib_lt hj
  refine Y.of ?_ k
  obtain ⟨p, l, e, R, s, m, args, below, meth, c, nL, Q, ce0, sl0⟩ := K
  obtain ⟨hx, hb, hml, hown, hts, hK, hZ, hlk, hfr, hlo, hzx, hok, hce, hsl⟩ := C
  intro g H locs ls hP hS hl
  have he : e2 A q V.2.2.1 (4 + 2 * ix j) = .inl (V.2.2.1 6, 5, .inr (.inr (.inr (.inr (fun k => if k = 0 then some (A (4 + 2 * ix j + 1)) else lG q ((4 + 2 * ix j - 4) / 2) k))))) := by
    unfold e2
    rw [if_neg (by omega), if_neg (by omega), if_neg (by omega), if_neg (by omega), if_pos (by omega)]
  have hc := zl_at (V := V) (A := A) (q := q) (σ := σ) (i := 4 + 2 * ix j) (by omega)
  rw [he] at hc
  have hv : (arrV (V.2.2.1 6) 5 (fun k => va_rf (if k = 0 then some (A (4 + 2 * ix j + 1)) else lG q ((4 + 2 * ix j - 4) / 2) k))).slots[ix (0 : Int32)]? = some (.ref (A (4 + 2 * ix j + 1))) := by
    rw [show ix (0 : Int32) = 0 from rfl, arrV_read _ _ (by decide)]
    rfl
  exact W.aald (v := .ref (A (4 + 2 * ix j + 1))) (ty := .array .int) hx hb (hP _ _ hc) ((hK.2 6 (V.2.2.1 6, .array .int) rfl).1 5 (fun k => va_rf (if k = 0 then some (A (4 + 2 * ix j + 1)) else lG q ((4 + 2 * ix j - 4) / 2) k))) rfl (fun q => by cases q) (by show ¬ ((0 : Int32) < 0 ∨ (arrV _ _ _).slots.size ≤ _); rw [arrV_size]; exact (by decide : ¬ ((0 : Int32) < 0 ∨ 5 ≤ Int32.toNatClampNeg 0))) hv rfl rfl d (g H locs ls hP hS hl)
theorem x_how (C : Fx K (Zl V A q) cc own fr lo) (pc : Nat) {i j : Int32} (hi : ib i (lM q)) (d : decode cc pc = .ok (.iaload, 1)) (k : ib j 3 → Y K (Zl V A q) prog E σ (pc + 1) L (.int (lH q (ix i) (ix j)) :: rest)) : Y K (Zl V A q) (chk (ib j 3) prog) E σ pc L (.int j :: .ref (A (4 + 2 * ix i + 1)) :: rest) := by
  have hlt := ib_lt hi
  refine Y_chk (fun hj => ?_)
  have k := k hj
  refine Y.of ?_ k
  obtain ⟨p, l, e, R, s, m, args, below, meth, c, nL, Q, ce0, sl0⟩ := K
  obtain ⟨hx, hb, hml, hown, hts, hK, hZ, hlk, hfr, hlo, hzx, hok, hce, hsl⟩ := C
  intro g H locs ls hP hS hl
  have he : e2 A q V.2.2.1 (4 + 2 * ix i + 1) = .inl (V.2.2.1 1, 3, .inl (lH q (ix i))) := by
    unfold e2
    rw [if_neg (by omega), if_neg (by omega), if_neg (by omega), if_neg (by omega), if_neg (by omega), show (4 + 2 * ix i + 1 - 5) / 2 = ix i by omega]
  have hc := zl_at (V := V) (A := A) (q := q) (σ := σ) (i := 4 + 2 * ix i + 1) (by omega)
  rw [he] at hc
  exact va_iald hx hb hK hP _ 1 hc rfl hj d (g H locs ls hP hS hl)
theorem x_net (C : Fx K (Zl V A q) cc own fr lo) (hNW : ∀ w ∈ NWl, va_Nw w K.2.2.2.2.1) (pc : Nat) {idx : Nat} {v : Value} (i : Nat) (hi : i < 24) (hv : (netF A q)[i]? = some v) (hr : (TN9 i).1 = RN9) (hw : Cond.fieldLinkNest own idx RN9 (TN9 i).2.1 (TN9 i).2.2.1 RL ∈ NWl) (d : decode cc pc = .ok (.getfield idx, 3)) (k : Y K (Zl V A q) prog E σ (pc + 3) L (v :: rest)) : Y K (Zl V A q) prog E σ pc L (.ref (A 1) :: rest) := by
  refine Y.of ?_ k
  obtain ⟨p, l, e, R, s, m, args, below, meth, c, nL, Q, ce0, sl0⟩ := K
  obtain ⟨hx, hb, hml, hown, hts, hK, hZ, hlk, hfr, hlo, hzx, hok, hce, hsl⟩ := C
  intro g H locs ls hP hS hl
  exact va_getN hx hb hts in_N9 hown hK hP (127 + 1) (zl_at (by omega)) (show vwCl[9]? = some (RN9, TN9, 24) from rfl) i hi (va_Nw.use rfl (hNW _ hw)) (fun _ h => by rw [← hr]; exact h) hv d (g H locs ls hP hS hl)
/-- what the law's end wants -/
def Lr (K : Kt) (Z : Zt) : Prop := ∀ (σ : Wd) (pc : Nat) (L : List (Nat × Value)), decode cL_law pc = .ok (.ireturn, 1) → Go K Z σ pc L [.int 1]
theorem x_lawret {Z : Zt} {r0 : Int32} (C : Fx K Z cL_law own fr lo) (R : Lr K Z) (pc : Nat) (_hz : narrow .boolean (.int r0) = .int r0) (d : decode cL_law pc = .ok (.ireturn, 1)) : Y K Z (some (r0, σ)) (fun q : Int32 × Wd => q.1 = 1) σ pc L [.int r0] := by
  intro q h1 h2
  cases h1
  cases h2
  exact R σ pc L d
end XL
