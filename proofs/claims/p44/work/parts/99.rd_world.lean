/-! methods of the law that work on the class's world and make cells -/
theorem zw_len {V : Ct_V} {σ : Wd} : (zW (Zc V) σ).length = 127 := by simp [zW, Zc, zN]
theorem zwa {V : Ct_V} {σ : Wd} {wl : va_W} {j : Nat} {x : Nat × va_E} (h : wl[j]? = some x) : (zW (Zc V) σ ++ wl)[127 + j]? = some x := by
  rw [List.getElem?_append_right (by rw [zw_len]; omega), zw_len, Nat.add_sub_cancel_left]
  exact h
theorem zws {V : Ct_V} {σ : Wd} {wl wl' : va_W} {j : Nat} {x : Nat × va_E} (h : wl.set j x = wl') : (zW (Zc V) σ ++ wl).set (127 + j) x = zW (Zc V) σ ++ wl' := by
  subst h
  apply List.ext_getElem?
  intro k
  rw [List.getElem?_set]
  by_cases hk : k < 127
  · rw [if_neg (by omega), List.getElem?_append_left (by rw [zw_len]; exact hk), List.getElem?_append_left (by rw [zw_len]; exact hk)]
  · rw [List.getElem?_append_right (by rw [zw_len]; omega), List.getElem?_append_right (by rw [zw_len]; omega), zw_len, List.getElem?_set]
    by_cases e : 127 + j = k
    · have hl2 : (zW (Zc V) σ ++ wl).length = 127 + wl.length := by rw [List.length_append, zw_len]
      rw [if_pos e, hl2]
      by_cases hl : j < wl.length
      · rw [if_pos (by omega), if_pos (by omega), if_pos hl]
      · rw [if_neg (by omega), if_pos (by omega), if_neg hl]
    · rw [if_neg e, if_neg (by omega)]
theorem zwp {V : Ct_V} {σ : Wd} {wl w2 wl' : va_W} (h : wl ++ w2 = wl') : (zW (Zc V) σ ++ wl) ++ w2 = zW (Zc V) σ ++ wl' := by rw [List.append_assoc, h]
theorem va_P_two {D : va_G} {H : Heap} {w1 w2 : va_W} (h : va_P D vwCl (w1 ++ w2) H) : va_P D vwCl w1 H ∧ va_P D vwCl w2 H := by
  refine ⟨fun k q hq => h k q ?_, fun k q hq => h (w1.length + k) q ?_⟩
  · rw [List.getElem?_append_left (List.getElem?_eq_some_iff.mp hq).1]; exact hq
  · rw [List.getElem?_append_right (by omega), Nat.add_sub_cancel_left]; exact hq
/-- beside the class's world, and apart from it -/
theorem zw_apart {V : Ct_V} {σ : Wd} {A : Nat → Prop} {wl : va_W} (h : va_D A (zW (Zc V) σ ++ wl)) : ∀ (j : Nat) (x : Nat × va_E), wl[j]? = some x → ¬ zS (Zc V) x.1 := by
  rintro j x hx ⟨i, hi, e⟩
  have hi : i < 127 := hi
  have h1 : (zW (Zc V) σ ++ wl)[i]? = some (zA (Zc V) i, zY (Zc V) i σ) := by rw [List.getElem?_append_left (by rw [zw_len]; exact hi)]; exact zW_at hi
  have := h.1 _ _ _ _ h1 (zwa hx) e.symm
  omega
theorem zw_D {V : Ct_V} {σ σ' : Wd} {A : Nat → Prop} {wl : va_W} (h : va_D A (zW (Zc V) σ ++ wl)) : va_D A (zW (Zc V) σ' ++ wl) := by
  have key : ∀ (k : Nat) (p : Nat × va_E), (zW (Zc V) σ' ++ wl)[k]? = some p → ∃ p', (zW (Zc V) σ ++ wl)[k]? = some p' ∧ p'.1 = p.1 := by
    intro k p hp
    by_cases hk : k < 127
    · rw [List.getElem?_append_left (by rw [zw_len]; exact hk), zW_at (show k < zN (Zc V) from hk)] at hp
      cases hp
      exact ⟨(zA (Zc V) k, zY (Zc V) k σ), by rw [List.getElem?_append_left (by rw [zw_len]; exact hk), zW_at (show k < zN (Zc V) from hk)], rfl⟩
    · rw [List.getElem?_append_right (by rw [zw_len]; omega), zw_len] at hp
      exact ⟨p, by rw [List.getElem?_append_right (by rw [zw_len]; omega), zw_len]; exact hp, rfl⟩
  refine ⟨fun i k p q hp hq hpq => ?_, fun k q hq => ?_⟩
  · obtain ⟨p', h1, h2⟩ := key i p hp
    obtain ⟨q', h3, h4⟩ := key k q hq
    exact h.1 i k p' q' h1 h3 (by rw [h2, h4]; exact hpq)
  · obtain ⟨q', h1, h2⟩ := key k q hq
    rw [← h2]
    exact h.2 k q' h1
/-- what holds of a state besides, whatever is done in A -/
def Xk (K : Kt) (A : Nat → Prop) (V : Ct_V) : Prop :=
  match K with
  | (_, _, _, _, s, _, _, _, _, _, _, _, _, _) => ∀ (H : Heap) (locs : List Loc), va_S A s.heap H locs → ∀ U : State, U.heap = H → s.WarmedH U.vm → zX (Zc V) U
/-- a method that works on the class's world and makes new cells; wl: cells that it only looks at -/
def Cv (l : Launch) (V : Ct_V) (y : MethodName) (b : ByteArray) (n : Nat) (ret : Option FieldType) (fr lo mc ms : Nat) (As : List Value) (wl : va_W) (σ : Wd) (Rp : Option Value → Wd → va_W → Prop) : Prop :=
  ∀ sz : Nat, Met l y (.code y b n ret :: gw_tbl) { frames := fr, cells := mc, slots := ms, locals := lo } (va_Pc As (fun U => U.heap.size = sz ∧ zU (Zc V) σ U ∧ (NW U ∧ CSt U) ∧ va_P V.1 vwCl wl U.heap ∧ ∀ (j : Nat) (x : Nat × va_E), wl[j]? = some x → ¬ zS (Zc V) x.1)) (fun _ st oc t => (∃ rv, oc = .returned rv ∧ ∃ σ' nl, Rp rv σ' nl ∧ va_P V.1 vwCl (zW (Zc V) σ') t.heap ∧ va_P V.1 vwCl nl t.heap ∧ va_D (fun q => sz ≤ q) nl) ∧ va_F (fun q => zS (Zc V) q ∨ sz ≤ q) st t) mc ms (fun q => zS (Zc V) q ∨ sz ≤ q)
abbrev PoV (V : Ct_V) (sz : Nat) (Rp : Option Value → Wd → va_W → Prop) : Option Value → Heap → Prop := fun rv H => ∃ σ' nl, Rp rv σ' nl ∧ va_P V.1 vwCl (zW (Zc V) σ') H ∧ va_P V.1 vwCl nl H ∧ va_D (fun q => sz ≤ q) nl
theorem Cv_intro {l : Launch} {V : Ct_V} {y : MethodName} {b : ByteArray} {n : Nat} {ret : Option FieldType} {fr lo mc ms : Nat} {As : List Value} {wl : va_W} {σ : Wd} {Rp : Option Value → Wd → va_W → Prop} {own : String} (hy : plainName y.cls = true) (hyc : y.cls = own) (hsz : (lg_sl As).length ≤ n) (L0 : List (Nat × Value)) (hL : lv_args 0 As = L0)
    (h : ∀ K : Kt, Kl K = l → Kn K = n → Nx K V.1 V.2.2.1 b own (fun q => zS (Zc V) q ∨ (Ks K).heap.size ≤ q) fr lo mc ms → CSt (Ks K) → Wc K V.1 (fun q => zS (Zc V) q ∨ (Ks K).heap.size ≤ q) wl → Xk K (fun q => zS (Zc V) q ∨ (Ks K).heap.size ≤ q) V → zI (Zc V) → Re K ret (fun q => zS (Zc V) q ∨ (Ks K).heap.size ≤ q) mc ms (PoV V (Ks K).heap.size Rp) → Gn K V.1 (fun q => zS (Zc V) q ∨ (Ks K).heap.size ≤ q) (zW (Zc V) σ ++ []) 0 0 0 L0 []) : Cv l V y b n ret fr lo mc ms As wl σ Rp := by
  intro sz
  refine Met.ofW (cc := b) (maxL := n) (ret := ret) hy rfl ?_
  intro p e s m args below meth c s₁ B hml hv
  obtain ⟨rfl, hsz2, ⟨hPz, hK, hZ, hX⟩, ⟨hN, hcs⟩, hP, hnz⟩ := hv
  subst hsz2
  have hts := atoms_spec (ws := Cond.code y b n ret :: gw_tbl) B.pre
  have hown : s.vm.findClass own = some m.cls := by rw [← hyc]; exact findClass_of_methodNamed B.named
  have hl := lv_entry As (n := n) hsz
  rw [hL] at hl
  have g := h (p, l, e, (headSpec (Cond.code y b n ret :: gw_tbl) { frames := fr, cells := mc, slots := ms, locals := lo }).room, s, m, As.toArray, below, meth, c, n, MQ below (fun _ st oc t => (∃ rv, oc = .returned rv ∧ PoV V s.heap.size Rp rv t.heap) ∧ va_F (fun q => zS (Zc V) q ∨ s.heap.size ≤ q) st t) As.toArray s mc ms (fun q => zS (Zc V) q ∨ s.heap.size ≤ q), 0, 0) rfl rfl ⟨B.exec, B.bytes, hml, hown, fun w hw => hts w (List.mem_cons_of_mem _ hw), hK, B.notSynchronized, Nat.le_refl _, Nat.le_refl _, Nat.le_refl _, Nat.le_refl _, fun q hq => Or.inr hq, hN⟩ hcs ⟨hP, fun j x hx z => by
      rcases z with z | z
      · exact hnz j x hx z
      · exact absurd (hP j x hx).lt (Nat.not_lt.mpr z)⟩ (fun H locs hS U hU hW => zc_ok.1 s U hX ⟨by rw [hU]; exact hS.1, fun q h1 h2 => by rw [hU]; exact hS.2.1 q h1 (fun z => by rcases z with z | z; exact h2 z; exact absurd h1 (Nat.not_lt.mpr z))⟩ hW) hZ ⟨rfl, B.returns⟩
  rw [lg_entry_eq]
  refine g s.heap [] _ (by rw [List.append_nil]; exact hPz) (by rw [List.append_nil]; exact (zD hZ σ).weaken (fun _ q _ h => Or.inl h)) va_S.rf hl
section GW
variable {K : Kt} {V : Ct_V} {cc : ByteArray} {own : String} {A : Nat → Prop} {fr lo mc ms ce sl : Nat} {wl : va_W} {L : List (Nat × Value)} {rest : List Value} {σ σ' : Wd}
theorem g_callX (C : Nx K V.1 V.2.2.1 cc own A fr lo mc ms) (hZ : zI (Zc V)) (hzA : ∀ q, zS (Zc V) q → A q) (hX : Xk K A V) (pc : Nat) {idx : Nat} {y : MethodName} {b : ByteArray} {n : Nat} {ret : Option FieldType} {f2 l2 : Nat} {rv : Option Value} {st : List Value} (As rest : List Value) (hst : st = As.reverse ++ .ref (zA (Zc V) 0) :: rest) (hlink : Cond.methodLink own idx y ∈ gw_tbl) (hm : Mv y b n ret As.length) (hcl : y.cls = RX8) (hfr2 : f2 + 1 ≤ fr) (hlo2 : 8 + (n + 11) + l2 ≤ lo) (hrest : (rest.map fun v => v.category).sum ≤ 8) (hce : ce ≤ mc) (hsl : sl ≤ ms) (d : decode cc pc = .ok (.invokevirtual idx, 3)) (hM : Ct (Kl K) (Zc V) y b n ret f2 l2 (.ref (zA (Zc V) 0) :: As) σ rv σ') (k : Gn K V.1 A (zW (Zc V) σ' ++ wl) ce sl (pc + 3) L (rv.toList ++ rest)) : Gn K V.1 A (zW (Zc V) σ ++ wl) ce sl pc L st := by
  subst hst
  obtain ⟨p, l, e, R, s, m, args, below, meth, c, nL, Q, ce0, sl0⟩ := K
  obtain ⟨hx, hb, hml, hown, hts, hK, hlk, hfr, hlo, hmc, hms, hA, hN⟩ := C
  intro H locs ls hP hD hS hl
  obtain ⟨hPz, hPw⟩ := va_P_two hP
  have cw : CallW R s args own y.cls idx y b n ret (.code y b n ret :: gw_tbl) { frames := f2, cells := 0, slots := 0, locals := l2 } 0 0 As.length := ⟨hm.1.callB hts hlink (Nat.le_trans hfr2 hfr) (Nat.le_trans hlo2 hlo), hts _ hm.2.1, hts _ hm.2.2⟩
  refine W_callZ (A := A) (va_runV (As := As) (rest := rest) ⟨hx, hb, hml, hown, hts⟩ hM cw ⟨zU_blind zc_ok, by rw [hcl]; exact va_recv hK hPz (ci := 8) (q := (RX8, TX8, 13)) rfl (zW_e (i := 0) (Nat.le_of_ble_eq_true rfl) (kc_0 V σ)), fun U hU hW => ⟨rfl, zU_at2 zc_ok (fun U hU hW => hX H locs hS U hU hW) hK hZ hPz U hU hW⟩⟩ rfl rfl hl.1 rfl (lv_room hrest) d ⟨Nat.le_trans hce hmc, Nat.le_trans hsl hms⟩) hS hzA (fun H1 locs1 hP1 hS1 _ hk => k H1 locs1 ls (hP1.app (hPw.kept (fun j x hx => hk x.1 (hPw j x hx).lt (zw_apart hD j x hx)))) (zw_D hD) hS1 hl)
theorem g_callL (C : Nx K V.1 V.2.2.1 cc own A fr lo mc ms) (hZ : zI (Zc V)) (hzA : ∀ q, zS (Zc V) q → A q) (hX : Xk K A V) (pc : Nat) {idx : Nat} {y : MethodName} {b : ByteArray} {n : Nat} {ret : Option FieldType} {f2 l2 : Nat} {rv : Option Value} {st : List Value} (As rest : List Value) (hst : st = As.reverse ++ rest) (hlink : Cond.methodLink own idx y ∈ gw_tbl) (hm : Ms y b n ret As.length) (hfr2 : f2 + 1 ≤ fr) (hlo2 : 8 + (n + 11) + l2 ≤ lo) (hrest : (rest.map fun v => v.category).sum ≤ 8) (hce : ce ≤ mc) (hsl : sl ≤ ms) (d : decode cc pc = .ok (.invokestatic idx, 3)) (hM : Ct (Kl K) (Zc V) y b n ret f2 l2 As σ rv σ') (k : Gn K V.1 A (zW (Zc V) σ' ++ wl) ce sl (pc + 3) L (rv.toList ++ rest)) : Gn K V.1 A (zW (Zc V) σ ++ wl) ce sl pc L st := by
  subst hst
  obtain ⟨p, l, e, R, s, m, args, below, meth, c, nL, Q, ce0, sl0⟩ := K
  obtain ⟨hx, hb, hml, hown, hts, hK, hlk, hfr, hlo, hmc, hms, hA, hN⟩ := C
  intro H locs ls hP hD hS hl
  obtain ⟨hPz, hPw⟩ := va_P_two hP
  have cw : CallB R s args own idx y b n ret (.code y b n ret :: gw_tbl) { frames := f2, cells := 0, slots := 0, locals := l2 } 0 0 As.length ∧ (Cond.static y).before args s = true := ⟨hm.1.callB hts hlink (Nat.le_trans hfr2 hfr) (Nat.le_trans hlo2 hlo), hts _ hm.2⟩
  refine W_callZ (A := A) (va_runS (As := As) (rest := rest) ⟨hx, hb, hml, hown, hts⟩ hM cw ⟨zU_blind zc_ok, fun U hU hW => ⟨rfl, zU_at2 zc_ok (fun U hU hW => hX H locs hS U hU hW) hK hZ hPz U hU hW⟩⟩ rfl rfl hl.1 rfl (lv_room hrest) d ⟨Nat.le_trans hce hmc, Nat.le_trans hsl hms⟩) hS hzA (fun H1 locs1 hP1 hS1 _ hk => k H1 locs1 ls (hP1.app (hPw.kept (fun j x hx => hk x.1 (hPw j x hx).lt (zw_apart hD j x hx)))) (zw_D hD) hS1 hl)
theorem Cv_blind {As : List Value} {sz : Nat} {w2 : va_W} : FrameBlind (va_Pc As (fun U => U.heap.size = sz ∧ zU (Zc V) σ U ∧ (NW U ∧ CSt U) ∧ va_P V.1 vwCl w2 U.heap ∧ ∀ (j : Nat) (x : Nat × va_E), w2[j]? = some x → ¬ zS (Zc V) x.1)) := fun a U g mk h => ⟨h.1, h.2.1, ⟨h.2.2.1.1, va_K.moved (u := U) (U := U.calling g mk a) (Vm.Alike.refl U.vm) h.2.2.1.2.1, h.2.2.1.2.2.1, zc_ok.2 _ _ _ _ h.2.2.1.2.2.2⟩, ⟨h.2.2.2.1.1.calling, CSt.moved (u := U) (U := U.calling g mk a) (Vm.Alike.refl U.vm) h.2.2.2.1.2⟩, h.2.2.2.2⟩
/-- a static call of a method that works on the class's world and makes cells -/
theorem g_callW (C : Nx K V.1 V.2.2.1 cc own A fr lo mc ms) (hcs : CSt (Ks K)) (hZ : zI (Zc V)) (hzA : ∀ q, zS (Zc V) q → A q) (hX : Xk K A V) (pc : Nat) {idx : Nat} {y : MethodName} {b : ByteArray} {n : Nat} {ret : Option FieldType} {f2 l2 mc2 ms2 : Nat} {w2 : va_W} {Rp : Option Value → Wd → va_W → Prop} {st : List Value} (As rest : List Value) (hst : st = As.reverse ++ rest) (hlink : Cond.methodLink own idx y ∈ gw_tbl) (hm : Ms y b n ret As.length) (hfr2 : f2 + 1 ≤ fr) (hlo2 : 8 + (n + 11) + l2 ≤ lo) (hrest : (rest.map fun v => v.category).sum ≤ 8) (hce : ce + mc2 ≤ mc) (hsl : sl + ms2 ≤ ms) (d : decode cc pc = .ok (.invokestatic idx, 3)) (hM : Cv (Kl K) V y b n ret f2 l2 mc2 ms2 As w2 σ Rp) (ps : List Nat) (hps : ps.filterMap (fun i => wl[i]?) = w2) (k : ∀ rv σ' nl, Rp rv σ' nl → Gn K V.1 A (zW (Zc V) σ' ++ (wl ++ nl)) (ce + mc2) (sl + ms2) (pc + 3) L (rv.toList ++ rest)) : Gn K V.1 A (zW (Zc V) σ ++ wl) ce sl pc L st := by
  subst hst
  obtain ⟨p, l, e, R, s, m, args, below, meth, c, nL, Q, ce0, sl0⟩ := K
  obtain ⟨hx, hb, hml, hown, hts, hK, hlk, hfr, hlo, hmc, hms, hA, hN⟩ := C
  intro H locs ls hP hD hS hl
  obtain ⟨hPz, hPw⟩ := va_P_two hP
  have cw : CallB R s args own idx y b n ret (.code y b n ret :: gw_tbl) { frames := f2, cells := mc2, slots := ms2, locals := l2 } mc2 ms2 As.length ∧ (Cond.static y).before args s = true := ⟨n_callB hm.1 hts hlink (Nat.le_trans hfr2 hfr) (Nat.le_trans hlo2 hlo), hts _ hm.2⟩
  have hsub : ∀ (j : Nat) (x : Nat × va_E), w2[j]? = some x → ∃ i : Nat, wl[i]? = some x := by
    intro j x hx
    have h1 := List.mem_of_getElem? hx
    rw [← hps] at h1
    obtain ⟨i, -, hi⟩ := List.mem_filterMap.mp h1
    exact ⟨i, hi⟩
  refine g_Wc (A := A) (Po := fun rv H1 => ∃ σ' nl, Rp rv σ' nl ∧ va_P V.1 vwCl (zW (Zc V) σ') H1 ∧ va_P V.1 vwCl nl H1 ∧ va_D (fun q => H.size ≤ q) nl) (va_runS (As := As) (rest := rest) ⟨hx, hb, hml, hown, hts⟩ (hM H.size) cw ⟨Cv_blind, fun U hU hW => ⟨rfl, by rw [hU], zU_at2 zc_ok (fun U hU hW => hX H locs hS U hU hW) hK hZ hPz U hU hW, ⟨hN.warm hW, CSt.moved hW.alike (show CSt s from hcs)⟩, by rw [hU]; exact hPw.sub ps hps, fun j x hx => by obtain ⟨i, hi⟩ := hsub j x hx; exact zw_apart hD i x hi⟩⟩ rfl rfl hl.1 rfl (lv_room hrest) d ⟨Nat.le_trans hce hmc, Nat.le_trans hsl hms⟩) hS (fun q hq => by
      rcases hq with hq | hq
      · exact hzA q hq
      · exact hA q (Nat.le_trans hS.1 hq)) (fun rv H1 locs1 hPo hS1 hz hk => ?_)
  obtain ⟨σ', nl, h1, h2, h3, h4⟩ := hPo
  have hPw1 : va_P V.1 vwCl wl H1 := hPw.kept (fun j x hx => hk x.1 (hPw j x hx).lt (fun z => by
    rcases z with z | z
    · exact zw_apart hD j x hx z
    · exact absurd (hPw j x hx).lt (Nat.not_lt.mpr z)))
  refine k rv σ' nl h1 H1 locs1 ls (h2.app (hPw1.app h3)) ?_ hS1 hl
  have hD1 := va_D.joinN hP hD h4 (fun q hq => hA q (Nat.le_trans hS.1 hq))
  rw [List.append_assoc] at hD1
  exact zw_D hD1
end GW
theorem bnd1_inv {α β : Type} {x : Option α} {k : α → Option β} {b : β} (h : bnd1 x k = some b) : ∃ a, x = some a ∧ k a = some b := by
  cases x with
  | none => cases h
  | some a => exact ⟨a, rfl, h⟩
theorem zw_new {V : Ct_V} {σ : Wd} {nl : va_W} {sz : Nat} (h : va_D (fun q => zS (Zc V) q ∨ sz ≤ q) (zW (Zc V) σ ++ nl)) : va_D (fun q => sz ≤ q) nl := by
  refine ⟨fun i j p q hp hq e => ?_, fun j x hx => ?_⟩
  · have := h.1 _ _ _ _ (zwa hp) (zwa hq) e
    omega
  · rcases h.2 _ _ (zwa hx) with z | z
    · exact absurd z (zw_apart h j x hx)
    · exact z
def tm3 (a b c : Int32) : Nat → Int32 := upd (upd (upd (fun _ => 0) (ix (0 : Int32)) a) (ix (1 : Int32)) b) (ix (2 : Int32)) c
theorem ix0 : ix (0 : Int32) = 0 := rfl
theorem ix1 : ix (1 : Int32) = 1 := rfl
theorem ix2 : ix (2 : Int32) = 2 := rfl
theorem tm3_0 {a b c : Int32} : tm3 a b c (ix (0 : Int32)) = a := by unfold tm3 upd; rw [ix0, ix1, ix2]; simp
theorem tm3_1 {a b c : Int32} : tm3 a b c (ix (1 : Int32)) = b := by unfold tm3 upd; rw [ix0, ix1, ix2]; simp
theorem tm3_2 {a b c : Int32} : tm3 a b c (ix (2 : Int32)) = c := by unfold tm3 upd; rw [ix2]; simp
theorem upd0 {k : Nat} : upd (fun _ => (0 : Int32)) k 0 = fun _ => 0 := by funext j; unfold upd; by_cases h : j = k <;> simp [h]
-- a list of unknown length between the class's world and the method's own cells
theorem fca {fc wl : va_W} {j : Nat} {x : Nat × va_E} (h : wl[j]? = some x) : (fc ++ wl)[fc.length + j]? = some x := by
  rw [List.getElem?_append_right (by omega), Nat.add_sub_cancel_left]
  exact h
theorem fcs {fc wl wl' : va_W} {j : Nat} {x : Nat × va_E} (h : wl.set j x = wl') : (fc ++ wl).set (fc.length + j) x = fc ++ wl' := by
  subst h
  rw [List.set_append_right _ _ (by omega), Nat.add_sub_cancel_left]
theorem fcp {fc wl w2 wl' : va_W} (h : wl ++ w2 = wl') : (fc ++ wl) ++ w2 = fc ++ wl' := by rw [List.append_assoc, h]
theorem zwq {V : Ct_V} {σ : Wd} {wl wl' : va_W} (h : wl = wl') : zW (Zc V) σ ++ wl = zW (Zc V) σ ++ wl' := by rw [h]
theorem upd_s {f : Nat → Int32} {k : Nat} {v : Int32} : upd f k v k = v := by unfold upd; simp
theorem vup_s {f : Nat → Option Nat} {k : Nat} {v : Option Nat} : va_up f k v k = v := by unfold va_up; simp
theorem vup_o {f : Nat → Option Nat} {k j : Nat} {v : Option Nat} (h : j ≠ k) : va_up f k v j = f j := by unfold va_up; simp [h]
/-- cells of the forms told so far: of each how it is, and its row -/
def FcOk (cy : Nat → ClassId) (hw : Nat → Nat → Int32) : Nat → va_W → (Nat → Option Nat) → Prop
  | 0, fc, _ => fc = []
  | f + 1, fc, g => ∃ fc0 ah av h5, fc = fc0 ++ [(ah, .inl (cy 1, 3, .inl (hw f))), (av, .inl (cy 6, 5, .inr (.inr (.inr (.inr h5)))))] ∧ g f = some av ∧ h5 0 = some ah ∧ FcOk cy hw f fc0 g
theorem FcOk.cong {cy : Nat → ClassId} {hw : Nat → Nat → Int32} {g g' : Nat → Option Nat} : ∀ (f : Nat) (fc : va_W), (∀ i, i < f → g' i = g i) → FcOk cy hw f fc g → FcOk cy hw f fc g'
  | 0, _, _, h => h
  | f + 1, _, hg, ⟨fc0, ah, av, h5, e, h1, h2, h3⟩ => ⟨fc0, ah, av, h5, e, (hg f (by omega)).trans h1, h2, FcOk.cong f fc0 (fun i hi => hg i (by omega)) h3⟩
theorem perm_fc {V : Ct_V} {σ : Wd} {fc net x : va_W} : (zW (Zc V) σ ++ (fc ++ (net ++ x))).Perm (zW (Zc V) σ ++ ((fc ++ x) ++ net)) := by
  refine List.Perm.append_left _ ?_
  rw [List.append_assoc]
  exact List.Perm.append_left _ List.perm_append_comm
-- what is told of
abbrev tdSeed (p : Int32) : Int32 := ((p >>> ((2 : Int32) &&& 31)) &&& (1023 : Int32))
abbrev tdCop (q : Int32) : Int32 := ((1 : Int32) + ((q &&& (255 : Int32)) - (q &&& (255 : Int32)) / (5 : Int32) * (5 : Int32)))
abbrev tdPri (p q : Int32) : Int32 := ((p &&& (255 : Int32)) - (p &&& (255 : Int32)) / tdCop q * tdCop q)
abbrev tdCel (p : Int32) : Int32 := (((p >>> ((3 : Int32) &&& 31)) &&& (255 : Int32)) - ((p >>> ((3 : Int32) &&& 31)) &&& (255 : Int32)) / (5 : Int32) * (5 : Int32))
def tdFor (p q : Int32) : Int32 := if tdCel p = 0 then 0 else (((q >>> ((3 : Int32) &&& 31)) &&& (255 : Int32)) - ((q >>> ((3 : Int32) &&& 31)) &&& (255 : Int32)) / (5 : Int32) * (5 : Int32))
abbrev tdFirst (q i : Int32) : Int32 := (((q >>> (i &&& 31)) &&& (255 : Int32)) - ((q >>> (i &&& 31)) &&& (255 : Int32)) / (12 : Int32) * (12 : Int32))
def tdFs (q : Int32) : Nat → Nat → Int32
  | 0 => fun _ => 0
  | i + 1 => upd (tdFs q i) (ix (nI i)) (tdFirst q (nI i))
abbrev hwA (v : Int32) : Int32 := (v &&& (1 : Int32))
abbrev hwB (v nc : Int32) : Int32 := (((v >>> ((1 : Int32) &&& 31)) &&& (255 : Int32)) - ((v >>> ((1 : Int32) &&& 31)) &&& (255 : Int32)) / nc * nc)
def hwC (v nc : Int32) : Int32 := if ((v >>> ((3 : Int32) &&& 31)) &&& (1 : Int32)) = 0 then -1 else (((v >>> ((4 : Int32) &&& 31)) &&& (255 : Int32)) - ((v >>> ((4 : Int32) &&& 31)) &&& (255 : Int32)) / nc * nc)
def hwF (v nc : Int32) : Nat → Int32 := tm3 (hwA v) (hwB v nc) (hwC v nc)
def sgF1 (v : Int32) : Int32 := if hwA v = 1 then 60 else 61
