/-! from the list of new cells to a world; calls of a world's methods from a constructor -/
theorem zW_of {D : va_G} {H : Heap} {ws : va_W} {Z : Zt} {σ : Wd} (pl : List Nat) (h : pl.map (fun j => ws[j]?) = (zW Z σ).map some) (hP : va_P D vwCl ws H) : va_P D vwCl (zW Z σ) H := by
  intro k q hq
  have h1 : ((zW Z σ).map some)[k]? = some (some q) := by rw [List.getElem?_map, hq]; rfl
  rw [← h, List.getElem?_map] at h1
  cases hp : pl[k]? with
  | none => rw [hp] at h1; cases h1
  | some j =>
    rw [hp] at h1
    exact hP j q (Option.some.inj h1)
theorem zI_of {A : Nat → Prop} {ws : va_W} {Z : Zt} {σ : Wd} (pl : List Nat) (hn : va_nd pl = true) (h : pl.map (fun j => ws[j]?) = (zW Z σ).map some) (hD : va_D A ws) : zI Z ∧ (∀ q, zS Z q → A q) := by
  have h2 : va_D A (zW Z σ) := hD.sub pl hn h
  exact ⟨fun i j hi hj e => h2.1 i j _ _ (zW_at hi) (zW_at hj) e, fun q hq => by obtain ⟨i, hi, rfl⟩ := hq; exact h2.2 i _ (zW_at hi)⟩
theorem n_swap {D : va_G} {H : Heap} {ws : va_W} {a n : Nat} {c : ClassId} {f g : Nat → Option Nat} (j : Nat) (hj : ws[j]? = some (a, .inl (c, n, .inr (.inr (.inr (.inr f)))))) (hfg : ∀ i, i < n → f i = g i) (hP : va_P D vwCl ws H) : va_P D vwCl (ws.set j (a, .inl (c, n, .inr (.inr (.inr (.inr g)))))) H := by
  intro k q hq
  rw [List.getElem?_set] at hq
  by_cases hk : j = k
  · subst hk
    have hl := (List.getElem?_eq_some_iff.mp hj).1
    simp only [if_pos, hl] at hq
    cases hq
    have h1 := hP j _ hj
    have e : arrV c n (fun i => va_rf (f i)) = arrV c n (fun i => va_rf (g i)) := by
      unfold arrV
      congr 1
      apply Array.ext
      · simp
      · intro i h1 h2
        simp at h1
        simp [hfg i h1]
    show H[a]? = some (arrV c n (fun i => va_rf (g i)))
    rw [← e]
    exact h1
  · rw [if_neg hk] at hq
    exact hP k q hq
theorem n_swapD {A : Nat → Prop} {ws : va_W} {a : Nat} {e e' : va_E} (j : Nat) (hj : ws[j]? = some (a, e)) (hD : va_D A ws) : va_D A (ws.set j (a, e')) := by
  have key : ∀ (k : Nat) (p : Nat × va_E), (ws.set j (a, e'))[k]? = some p → ∃ p', ws[k]? = some p' ∧ p'.1 = p.1 := by
    intro k p hp
    rw [List.getElem?_set] at hp
    by_cases hk : j = k
    · subst hk
      have hl := (List.getElem?_eq_some_iff.mp hj).1
      simp only [if_pos, hl] at hp
      cases hp
      exact ⟨_, hj, rfl⟩
    · rw [if_neg hk] at hp
      exact ⟨p, hp, rfl⟩
  refine ⟨fun i k p q hp hq hpq => ?_, fun k q hq => ?_⟩
  · obtain ⟨p', h1, h2⟩ := key i p hp
    obtain ⟨q', h3, h4⟩ := key k q hq
    exact hD.1 i k p' q' h1 h3 (by rw [h2, h4]; exact hpq)
  · obtain ⟨q', h1, h2⟩ := key k q hq
    rw [← h2]
    exact hD.2 k q' h1
/-- a call of a method of a world, from anywhere: what the world was goes on as what it is then -/
theorem W_callZ {p : Program} {l : Launch} {e : Env} {R : Room} {s : State} {m : MethodId} {args : Array Value} {below : List Frame} {meth : Method} {c : Code} {Q : State → Prop} {H : Heap} {locs : List Loc} {pc : Nat} {ls : Array Slot} {st0 : List Value} {rv : Option Value} {Z : Zt} {σ' : Wd} {A : Nat → Prop} {ce sl : Nat} {rest : List Value}
    (hr : va_Run p l e R s m args below meth c H locs ce sl 0 0 (F0 m pc ls st0) rest (fun st oc t => oc = .returned rv ∧ zU Z σ' t ∧ va_F (zS Z) st t) (zS Z)) (hS : va_S A s.heap H locs) (hzA : ∀ q, zS Z q → A q)
    (kk : ∀ (H1 : Heap) (locs1 : List Loc), va_P Z.1 vwCl (zW Z σ') H1 → va_S A s.heap H1 locs1 → H.size ≤ H1.size → (∀ q, q < H.size → ¬ zS Z q → H1[q]? = H[q]?) → W p l e R s m args below meth c H1 locs1 ce sl Q (F0 m (pc + 3) ls (rv.toList ++ rest))) : W p l e R s m args below meth c H locs ce sl Q (F0 m pc ls st0) := by
  intro T hT X
  obtain ⟨v, st₀, t, T', L, h0, X', hL, e1, e2, ⟨hv, hu, hz, hk⟩, st⟩ := hr T hT X
  cases hv
  rw [h0] at hz hk
  obtain ⟨t2, a1, b1⟩ := kk T'.heap (locs ++ L) (by rw [e1]; exact hu.1)
    ⟨Nat.le_trans hS.1 (by rw [e1]; exact hz), fun q h1 h2 => by rw [e1, hk q (Nat.lt_of_lt_of_le h1 hS.1) (fun z => h2 (hzA q z))]; exact hS.2.1 q h1 h2, fun q hq => by
      rcases List.mem_append.mp hq with h | h
      · exact hS.2.2 q h
      · exact hzA _ (hL q h)⟩ (by rw [e1]; exact hz) (fun q h1 h2 => by rw [e1]; exact hk q h1 h2) T' rfl X'
  exact ⟨t2, st t2 a1, b1⟩
theorem zU_at2 {s : State} {H : Heap} {Z : Zt} {σ : Wd} (hok : zXok Z) (hx : ∀ U : State, U.heap = H → s.WarmedH U.vm → zX Z U) (hK : va_K Z.1 vwCl (zT Z) s) (hZ : zI Z) (hP : va_P Z.1 vwCl (zW Z σ) H) : ∀ U : State, U.heap = H → s.WarmedH U.vm → zU Z σ U := fun U hU hW => ⟨by rw [hU]; exact hP, va_K.moved hW.alike hK, hZ, hx U hU hW⟩
section NZ
variable {K : Kt} {cy : Nat → ClassId} {cc : ByteArray} {own : String} {A : Nat → Prop} {fr lo mc ms ce sl : Nat} {L : List (Nat × Value)} {rest : List Value} {Z : Zt} {σ σ' : Wd} {rv : Option Value}
theorem n_callV (C : Nx K Z.1 cy cc own A fr lo mc ms) (hcy : zT Z = T6 cy) (hok : zXok Z) (hZ : zI Z) (hzA : ∀ q, zS Z q → A q) (hX : ∀ K2 : Kt, K = K2 → ∀ (H : Heap) (locs : List Loc), va_S A K2.2.2.2.2.1.heap H locs → ∀ U : State, U.heap = H → K2.2.2.2.2.1.WarmedH U.vm → zX Z U) (pc : Nat) {idx : Nat} {y : MethodName} {b : ByteArray} {n : Nat} {ret : Option FieldType} {f2 l2 i ci N : Nat} {T : u_T} {fs : List Value} {st : List Value} (As : List Value) (hst : st = As.reverse ++ .ref (zA Z i) :: rest) (hlink : Cond.methodLink own idx y ∈ gw_tbl) (hm : Mv y b n ret As.length) (hfr2 : f2 + 1 ≤ fr) (hlo2 : 8 + (n + 11) + l2 ≤ lo) (hce : ce ≤ mc) (hsl : sl ≤ ms) (hrest : (rest.map fun v => v.category).sum ≤ 8) (hi : i < zN Z) (hc : zY Z i σ = .inr (ci, fs)) (hcl : vwCl[ci]? = some (y.cls, T, N)) (d : decode cc pc = .ok (.invokevirtual idx, 3)) (hM : Ct (Kl K) Z y b n ret f2 l2 (.ref (zA Z i) :: As) σ rv σ') (k : Gn K Z.1 A (zW Z σ') ce sl (pc + 3) L (rv.toList ++ rest)) : Gn K Z.1 A (zW Z σ) ce sl pc L st := by
  subst hst
  obtain ⟨p, l, e, R, s, m, args, below, meth, c, nL, Q, ce0, sl0⟩ := K
  obtain ⟨hx, hb, hml, hown, hts, hK, hlk, hfr, hlo, hmc, hms, hA, hNW⟩ := C
  intro H locs ls hP hD hS hl
  rw [← hcy] at hK
  have cw : CallW R s args own y.cls idx y b n ret (.code y b n ret :: gw_tbl) { frames := f2, cells := 0, slots := 0, locals := l2 } 0 0 As.length := ⟨hm.1.callB hts hlink (Nat.le_trans hfr2 hfr) (Nat.le_trans hlo2 hlo), hts _ hm.2.1, hts _ hm.2.2⟩
  exact W_callZ (va_runV (As := As) (rest := rest) ⟨hx, hb, hml, hown, hts⟩ hM cw ⟨zU_blind hok, va_recv hK hP hcl (zW_e hi hc), fun U hU hW => ⟨rfl, zU_at2 hok (hX _ rfl H locs hS) hK hZ hP U hU hW⟩⟩ rfl rfl hl.1 rfl (lv_room hrest) d ⟨Nat.le_trans hce hmc, Nat.le_trans hsl hms⟩) hS hzA (fun H1 locs1 hP1 hS1 _ _ => k H1 locs1 ls hP1 ((zD hZ σ').weaken (fun k q _ h => hzA _ h)) hS1 hl)
theorem n_callS (C : Nx K Z.1 cy cc own A fr lo mc ms) (hcy : zT Z = T6 cy) (hok : zXok Z) (hZ : zI Z) (hzA : ∀ q, zS Z q → A q) (hX : ∀ K2 : Kt, K = K2 → ∀ (H : Heap) (locs : List Loc), va_S A K2.2.2.2.2.1.heap H locs → ∀ U : State, U.heap = H → K2.2.2.2.2.1.WarmedH U.vm → zX Z U) (pc : Nat) {idx : Nat} {y : MethodName} {b : ByteArray} {n : Nat} {ret : Option FieldType} {f2 l2 : Nat} {st : List Value} (As : List Value) (hst : st = As.reverse ++ rest) (hlink : Cond.methodLink own idx y ∈ gw_tbl) (hm : Ms y b n ret As.length) (hfr2 : f2 + 1 ≤ fr) (hlo2 : 8 + (n + 11) + l2 ≤ lo) (hce : ce ≤ mc) (hsl : sl ≤ ms) (hrest : (rest.map fun v => v.category).sum ≤ 8) (d : decode cc pc = .ok (.invokestatic idx, 3)) (hM : Ct (Kl K) Z y b n ret f2 l2 As σ rv σ') (k : Gn K Z.1 A (zW Z σ') ce sl (pc + 3) L (rv.toList ++ rest)) : Gn K Z.1 A (zW Z σ) ce sl pc L st := by
  subst hst
  obtain ⟨p, l, e, R, s, m, args, below, meth, c, nL, Q, ce0, sl0⟩ := K
  obtain ⟨hx, hb, hml, hown, hts, hK, hlk, hfr, hlo, hmc, hms, hA, hNW⟩ := C
  intro H locs ls hP hD hS hl
  rw [← hcy] at hK
  have cw : CallB R s args own idx y b n ret (.code y b n ret :: gw_tbl) { frames := f2, cells := 0, slots := 0, locals := l2 } 0 0 As.length ∧ (Cond.static y).before args s = true := ⟨hm.1.callB hts hlink (Nat.le_trans hfr2 hfr) (Nat.le_trans hlo2 hlo), hts _ hm.2⟩
  exact W_callZ (va_runS (As := As) (rest := rest) ⟨hx, hb, hml, hown, hts⟩ hM cw ⟨zU_blind hok, fun U hU hW => ⟨rfl, zU_at2 hok (hX _ rfl H locs hS) hK hZ hP U hU hW⟩⟩ rfl rfl hl.1 rfl (lv_room hrest) d ⟨Nat.le_trans hce hmc, Nat.le_trans hsl hms⟩) hS hzA (fun H1 locs1 hP1 hS1 _ _ => k H1 locs1 ls hP1 ((zD hZ σ').weaken (fun k q _ h => hzA _ h)) hS1 hl)
theorem n_last (C : Nx K Z.1 cy cc own A fr lo mc ms) (hcy : zT Z = T6 cy) (hZ : zI Z) (hzA : ∀ q, zS Z q → A q) (pc : Nat) {i n : Nat} {j : Int32} {x : Int64} (hi : i < zN Z) (hc : ∀ σ : Wd, zY Z i σ = .inl (zC Z 2, n, .inr (.inl (σ.2.1 i)))) (hj : ib j n) (d : decode cc pc = .ok (.lastore, 1)) (k : Gn K Z.1 A (zW Z (uL σ i (ix j) x)) ce sl (pc + 1) L rest) : Gn K Z.1 A (zW Z σ) ce sl pc L (.long x :: .int j :: .ref (zA Z i) :: rest) := by
  obtain ⟨p, l, e, R, s, m, args, below, meth, c, nL, Q, ce0, sl0⟩ := K
  obtain ⟨hx, hb, hml, hown, hts, hK, hlk, hfr, hlo, hmc, hms, hA, hNW⟩ := C
  intro H locs ls hP hD hS hl
  rw [← hcy] at hK
  exact va_last hx hb hK hP hD hS i 2 (zW_e hi (hc σ)) rfl hj d (fun H1 locs1 hP1 hD1 hS1 => by
    rw [zW_set (σ' := uL σ i (ix j) x) (by rw [hc]; simp [uL, rL]) zY_rL] at hP1
    exact k H1 locs1 ls hP1 ((zD hZ _).weaken (fun k q _ h => hzA _ h)) hS1 hl)
end NZ
theorem n_conv {K : Kt} {A : Nat → Prop} {Z : Zt} {σ : Wd} {ws : va_W} {ce sl pc : Nat} {L : List (Nat × Value)} {st : List Value} (hP : ∀ H, va_P Z.1 vwCl ws H → va_P Z.1 vwCl (zW Z σ) H) (hD : va_D A ws → va_D A (zW Z σ)) (k : zI Z → (∀ q, zS Z q → A q) → Gn K Z.1 A (zW Z σ) ce sl pc L st) : Gn K Z.1 A ws ce sl pc L st := by
  obtain ⟨p, l, e, R, s, m, args, below, meth, c, nL, Q, ce0, sl0⟩ := K
  intro H locs ls hP0 hD0 hS hl
  have h2 := hD hD0
  exact k (fun i j hi hj e => h2.1 i j _ _ (zW_at hi) (zW_at hj) e) (fun q hq => by obtain ⟨i, hi, rfl⟩ := hq; exact h2.2 i _ (zW_at hi)) H locs ls (hP H hP0) h2 hS hl
/-- SIGNS, COMPACT_STRINGS, WORDS, outside of A -/
def zx0 (ax : Nat → Nat) (A : Nat → Prop) : State → Prop := fun U => vk_R "TentativeDesk$Tokens" 56 ";=+-*/<()" (ax 0) U ∧ vk_S 1 [9] [sgB] (fun _ => ax 0) (fun _ => ax 1) A U U.heap ∧ va_Z "java/lang/String" "COMPACT_STRINGS" "Z" (.int 1) A U U.heap ∧ va_Z "TentativeDesk$Tokens" "WORDS" "[J" (.ref (ax 2)) A U U.heap ∧ va_T .long (ax 2) 11 (fun j => .long (wdF j)) A U U.heap
theorem zx0_go {ax : Nat → Nat} {A B : Nat → Prop} {s U : State} (hAB : ∀ q, B q → A q) (h : zx0 ax A s) (hq : ∀ a : Nat, a < s.heap.size → ¬ A a → U.heap[a]? = s.heap[a]?) (hW : s.WarmedH U.vm) : zx0 ax B U := by
  obtain ⟨h1, h2, h3, h4, h5⟩ := h
  have hv := hW.alike
  exact ⟨vk_R.warm hW h1, ((vk_S.moved hv h2).kept hq).narrow hAB, ((va_Z.moved hv h3).kept hq).narrow hAB, ((va_Z.moved hv h4).kept hq).narrow hAB, ((va_T.moved hv h5).kept hq).narrow hAB⟩
theorem zx0_calling {ax : Nat → Nat} {A : Nat → Prop} {U : State} {g : JFrame} {mk : MethodId} {a : Array Value} (h : zx0 ax A U) : zx0 ax A (U.calling g mk a) := by
  obtain ⟨h1, h2, h3, h4, h5⟩ := h
  have hv : U.vm.Alike (U.calling g mk a).vm := Vm.Alike.refl U.vm
  exact ⟨vk_R.same (u := U) (U := U.calling g mk a) rfl h1, vk_S.moved (U := U.calling g mk a) hv h2, va_Z.moved (U := U.calling g mk a) hv h3, va_Z.moved (U := U.calling g mk a) hv h4, va_T.moved (U := U.calling g mk a) hv h5⟩
/-- the object's own address is told -/
def adz (h0 : Nat) (u : Nat → Nat) : Nat → Nat := fun i => if i = 0 then h0 else u i
theorem adz_eq {h0 : Nat} {u : Nat → Nat} (h : u 0 = h0) : adz h0 u = u := by
  funext i
  unfold adz
  by_cases hi : i = 0
  · rw [if_pos hi, hi, h]
  · rw [if_neg hi]
