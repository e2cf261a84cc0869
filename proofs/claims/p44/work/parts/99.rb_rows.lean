/-! more rows: arrays of arrays made, copies of arrays, ends, calls of the class's methods beside one's own cells -/
section GM
variable {K : Kt} {D : va_G} {cy : Nat → ClassId} {cc : ByteArray} {own : String} {A : Nat → Prop} {fr lo mc ms ce sl : Nat} {ws : va_W} {L : List (Nat × Value)} {rest : List Value}
theorem cy_at {t0 : Nat} {cA : ClassId} {ty : FieldType} {s : State} (hK : va_K D vwCl (T6 cy) s) (ht : (T6 cy)[t0]? = some (cA, ty)) (hpr : ∀ U : State, va_RA U cA ty → U.vm.findClass ("[" ++ ty.toString) = some cA) : s.vm.findClass ("[" ++ ty.toString) = some cA := hpr s (hK.2 t0 _ ht).2
/-- a new array of arrays, none in it -/
theorem g_anewA (C : Nx K D cy cc own A fr lo mc ms) (pc : Nat) {idx t0 : Nat} {t : FieldType} {cA0 : ClassId} {n : Int32} (N : Nat) (h1 : Cond.classLink own idx (FieldType.array t).toString ∈ gw_tbl) (ht : (T6 cy)[t0]? = some (cA0, .array t)) (hpr : ∀ U : State, va_RA U cA0 (.array t) → U.vm.findClass ("[" ++ (FieldType.array t).toString) = some cA0) (hZ : ∀ U : State, NW U → va_AOT t U) (hn : ¬ n < 0) (hNn : n.toNatClampNeg = N) (hby : N * 4 ≤ 536870912) (hce : ce + 1 ≤ mc) (hsl : sl + N ≤ ms) (d : decode cc pc = .ok (.anewarray idx, 3)) (k : ∀ q : Nat, Gn K D A (ws ++ [(q, .inl (cA0, N, .inr (.inr (.inr (.inr (fun _ => none))))))]) (ce + 1) (sl + N) (pc + 3) L (.ref q :: rest)) : Gn K D A ws ce sl pc L (.int n :: rest) := by
  subst hNn
  obtain ⟨p, l, e, R, s, m, args, below, meth, c, nL, Q, ce0, sl0⟩ := K
  obtain ⟨hx, hb, hml, hown, hts, hK, hlk, hfr, hlo, hmc, hms, hA, hN⟩ := C
  intro H locs ls hP hD hS hl
  refine W.anewA hx hb hown (hts _ h1) (hZ s hN) rfl d rfl hn hby (Nat.le_trans hce hmc) (Nat.le_trans hsl hms) fun cA kA comp f1 f2 f3 f4 => ?_
  cases (hpr s (hK.2 t0 _ ht).2).symm.trans f1
  generalize hH1 : H.push ({ cls := cA0, slots := Array.replicate n.toNatClampNeg .null, vm := .none } : Cell) = H1
  have z1 : H1.size = H.size + 1 := by rw [← hH1, Array.size_push]
  have e1 : H1[H.size]? = some (arrV cA0 n.toNatClampNeg (fun _ => .null)) := by rw [← hH1, Array.getElem?_push_size, ← arrV_new]
  have o1 : ∀ q : Nat, q < H.size → H1[q]? = H[q]? := fun q hq => by rw [← hH1, Array.getElem?_push, if_neg (Nat.ne_of_lt hq)]
  refine k H.size H1 locs ls ((hP.kept (fun j x hx => o1 x.1 (hP j x hx).lt)).app (fun j x hx => ?_)) (hD.push hP rfl (hA _ hS.1)) ⟨Nat.le_trans hS.1 (by omega), fun x h1 h2 => (o1 x (Nat.lt_of_lt_of_le h1 hS.1)).trans (hS.2.1 x h1 h2), hS.2.2⟩ hl
  have hz : j < 1 := (List.getElem?_eq_some_iff.mp hx).1
  rw [show j = 0 by omega] at hx
  cases hx
  show H1[H.size]? = some (vp_cell _ _)
  rw [vp_cell_q]
  exact e1
/-- a copy of an array of ints -/
theorem g_clone {wl : va_W} (C : Nx K D cy cc own A fr lo mc ms) (hcs : CSt (Ks K)) (hW : Wo K D A ws wl) (pc : Nat) {idx a n : Nat} {f : Nat → Int32} (i : Nat) (hc : wl[i]? = some (a, .inl (cy 1, n, .inl f))) (h1 : Cond.methodLink own idx ⟨"[I", "clone", "()Ljava/lang/Object;"⟩ ∈ gw_tbl) (h2 : Cond.sameMethod "[I" "java/lang/Object" "clone" "()Ljava/lang/Object;" ∈ gw_tbl) (h3 : Cond.native ⟨"java/lang/Object", "clone", "()Ljava/lang/Object;"⟩ ∈ gw_tbl) (h4 : Cond.instanceMethod ⟨"java/lang/Object", "clone", "()Ljava/lang/Object;"⟩ ∈ gw_tbl) (h5 : Cond.selects "[I" ⟨"[I", "clone", "()Ljava/lang/Object;"⟩ ⟨"java/lang/Object", "clone", "()Ljava/lang/Object;"⟩ ∈ gw_tbl) (hf : 1 ≤ fr) (hw : (rest.map fun v => v.category).sum + 14 ≤ lo) (hce : ce + 1 ≤ mc) (hsl : sl + n ≤ ms) (d : decode cc pc = .ok (.invokevirtual idx, 3)) (k : ∀ q : Nat, Gn K D A (ws ++ [(q, .inl (cy 1, n, .inl f))]) (ce + 1) (sl + n) (pc + 3) L (.ref q :: rest)) : Gn K D A ws ce sl pc L (.ref a :: rest) := by
  obtain ⟨p, l, e, R, s, m, args, below, meth, c, nL, Q, ce0, sl0⟩ := K
  obtain ⟨hx, hb, hml, hown, hts, hK, hlk, hfr, hlo, hmc, hms, hA, hN⟩ := C
  intro H locs ls hP hD hS hl
  have hPw := hW H locs hP hS
  have hnm : s.vm.findClass "[I" = some (cy 1) := (hK.2 1 (cy 1, .int) rfl).2
  obtain ⟨c0, t0', f1, f2, f3⟩ := (show CSt s from hcs)
  cases hnm.symm.trans f1
  intro T hT X
  have hcellT : T.heap[a]? = some (arrV (cy 1) n (fun j => .int (f j))) := by rw [hT]; exact hPw i _ hc
  obtain ⟨-, kA, hkA, comp, hkind⟩ := State.isArrayOf_alike X.warmed.alike ((hK.2 1 (cy 1, .int) rfl).1 0 (fun _ => .null))
  obtain ⟨-, kS, hkS, compS, hkindS⟩ := (hK.2 1 (cy 1, .int) rfl).1 0 (fun _ => .null)
  have hsz : (arrV (cy 1) n (fun j => .int (f j))).slots.size = n := arrV_size _ _ _
  obtain ⟨vm', X', st⟩ := X.cloneArray hx hown (hts _ h1) (hts _ h2) (hts _ h3) (hts _ h4) (hts _ h5) (a := a) (cell := arrV (cy 1) n (fun j => .int (f j))) hcellT (fun k h => by cases h) (fun h => by cases h) hnm f2 f3
    (fun j v hv => by
      have hj : j < n := by
        have := (Array.getElem?_eq_some_iff.mp hv).1
        rw [hsz] at this
        exact this
      rw [arrV_read _ _ hj] at hv
      cases hv
      have hk' : T.vm.classes[cy 1]? = some kA := hkA
      show T.fitsSlot (cy 1) .none j (.int (f j)) = true
      simp [State.fitsSlot, State.slotType?, hk', hkind]
      rfl)
    (g := F0 m pc ls (.ref a :: rest)) rfl (by rw [hml]; exact hl.1) rfl (by rw [hb]; exact d) (Nat.le_trans hf hfr) (by show 2 * 0 + _ + 14 ≤ _; omega) (Nat.le_trans hce hmc) (by rw [hsz]; exact Nat.le_trans hsl hms) (hloader := Vm.clonesLoader_of_array hkS hkindS)
  rw [hsz] at X'
  generalize hH1 : H.push (arrV (cy 1) n (fun j => .int (f j))) = H1
  have z1 : H1.size = H.size + 1 := by rw [← hH1, Array.size_push]
  have e1 : H1[H.size]? = some (arrV (cy 1) n (fun j => .int (f j))) := by rw [← hH1, Array.getElem?_push_size]
  have o1 : ∀ q : Nat, q < H.size → H1[q]? = H[q]? := fun q hq => by rw [← hH1, Array.getElem?_push, if_neg (Nat.ne_of_lt hq)]
  obtain ⟨t, b1, b2⟩ := k H.size H1 locs ls ((hP.kept (fun j x hx => o1 x.1 (hP j x hx).lt)).app (fun j x hx => by
      have hz : j < 1 := (List.getElem?_eq_some_iff.mp hx).1
      rw [show j = 0 by omega] at hx
      cases hx
      exact e1)) (hD.push hP rfl (hA _ hS.1)) ⟨Nat.le_trans hS.1 (by omega), fun y h1 h2 => (o1 y (Nat.lt_of_lt_of_le h1 hS.1)).trans (hS.2.1 y h1 h2), hS.2.2⟩ hl
    ((T.setVm vm').pushCell (arrV (cy 1) n (fun j => .int (f j)))) (by rw [← hH1, ← hT]; rfl) X'
  refine ⟨t, st t ?_, b2⟩
  rw [hT]
  exact b1
theorem g_castI {wl : va_W} (C : Nx K D cy cc own A fr lo mc ms) (pc : Nat) {idx a : Nat} {x : vp_A} (i : Nat) (hc : ws[i]? = some (a, .inl (cy 1, x))) (h1 : Cond.classLink own idx "[I" ∈ gw_tbl) (d : decode cc pc = .ok (.checkcast idx, 3)) (k : Gn K D A ws ce sl (pc + 3) L (.ref a :: rest)) : Gn K D A ws ce sl pc L (.ref a :: rest) := by
  obtain ⟨p, l, e, R, s, m, args, below, meth, c, nL, Q, ce0, sl0⟩ := K
  obtain ⟨hx, hb, hml, hown, hts, hK, hlk, hfr, hlo, hmc, hms, hA, hN⟩ := C
  intro H locs ls hP hD hS hl
  exact va_castA hx hb hown (hts _ h1) hP i hc (hK.2 1 (cy 1, .int) rfl).2 d (k H locs ls hP hD hS hl)
end GM
section GE
variable {K : Kt} {D : va_G} {cy : Nat → ClassId} {cc : ByteArray} {own : String} {A : Nat → Prop} {fr lo mc ms ce sl : Nat} {ws : va_W} {L : List (Nat × Value)} {rest : List Value}
theorem g_mmax (C : Nx K D cy cc own A fr lo mc ms) (pc : Nat) {idx : Nat} {x y : Int32} (hl1 : Cond.methodLink own idx Lib.Math.max.name ∈ gw_tbl) (hs1 : Cond.static Lib.Math.max.name ∈ gw_tbl) (hi1 : Cond.initialized "java/lang/Math" ∈ gw_tbl) (hc1 : Cond.code Lib.Math.max.name Lib.Math.max.code 2 (some .int) ∈ gw_tbl) (hf : 1 ≤ fr) (hw : (rest.map fun v => v.category).sum + 15 ≤ lo) (hce : ce ≤ mc) (hsl : sl ≤ ms) (d : decode cc pc = .ok (.invokestatic idx, 3)) (k : Gn K D A ws ce sl (pc + 3) L (.int (if x < y then y else x) :: rest)) : Gn K D A ws ce sl pc L (.int y :: .int x :: rest) := by
  obtain ⟨p, l, e, R, s, m, args, below, meth, c, nL, Q, ce0, sl0⟩ := K
  obtain ⟨hx, hb, hml, hown, hts, hK, hlk, hfr, hlo, hmc, hms, hA, hN⟩ := C
  intro H locs ls hP hD hS hl
  exact va_mmax hx hb (by rw [hml]; exact hl.1.symm) hown (hts _ hl1) (hts _ hs1) (hts _ hi1) (hts _ hc1) (Nat.le_trans hf hfr) (by omega) (Nat.le_trans hce hmc) (Nat.le_trans hsl hms) d (k H locs ls hP hD hS hl)
theorem g_mmin (C : Nx K D cy cc own A fr lo mc ms) (pc : Nat) {idx : Nat} {x y : Int32} (hl1 : Cond.methodLink own idx Lib.Math.min.name ∈ gw_tbl) (hs1 : Cond.static Lib.Math.min.name ∈ gw_tbl) (hi1 : Cond.initialized "java/lang/Math" ∈ gw_tbl) (hc1 : Cond.code Lib.Math.min.name Lib.Math.min.code 2 (some .int) ∈ gw_tbl) (hf : 1 ≤ fr) (hw : (rest.map fun v => v.category).sum + 15 ≤ lo) (hce : ce ≤ mc) (hsl : sl ≤ ms) (d : decode cc pc = .ok (.invokestatic idx, 3)) (k : Gn K D A ws ce sl (pc + 3) L (.int (if y < x then y else x) :: rest)) : Gn K D A ws ce sl pc L (.int y :: .int x :: rest) := by
  obtain ⟨p, l, e, R, s, m, args, below, meth, c, nL, Q, ce0, sl0⟩ := K
  obtain ⟨hx, hb, hml, hown, hts, hK, hlk, hfr, hlo, hmc, hms, hA, hN⟩ := C
  intro H locs ls hP hD hS hl
  exact va_mmin hx hb (by rw [hml]; exact hl.1.symm) hown (hts _ hl1) (hts _ hs1) (hts _ hi1) (hts _ hc1) (Nat.le_trans hf hfr) (by omega) (Nat.le_trans hce hmc) (Nat.le_trans hsl hms) d (k H locs ls hP hD hS hl)
/-- what a method's end wants: the answer, and the list that is left -/
def Re (K : Kt) (ret : Option FieldType) (A : Nat → Prop) (mc ms : Nat) (Po : Option Value → Heap → Prop) : Prop :=
  match K with
  | (_, _, _, _, s, _, args, below, meth, _, _, Q, _, _) => Q = MQ below (fun _ st oc t => (∃ rv, oc = .returned rv ∧ Po rv t.heap) ∧ va_F A st t) args s mc ms A ∧ meth.sig.returnType = ret
theorem g_iret {Po : Option Value → Heap → Prop} {r : Int32} (C : Nx K D cy cc own A fr lo mc ms) (R0 : Re K (some .int) A mc ms Po) (hce : ce ≤ mc) (hsl : sl ≤ ms) (pc : Nat) (d : decode cc pc = .ok (.ireturn, 1)) (h : ∀ H, va_P D vwCl ws H → va_D A ws → Po (some (.int r)) H) : Gn K D A ws ce sl pc L [.int r] := by
  obtain ⟨p, l, e, R, s, m, args, below, meth, c, nL, Q, ce0, sl0⟩ := K
  obtain ⟨hx, hb, hml, hown, hts, hK, hlk, hfr, hlo, hmc, hms, hA, hN⟩ := C
  obtain ⟨rfl, hr⟩ := R0
  intro H locs ls hP hD hS hl
  refine W.widen hce hsl ?_
  exact W.iret hx hb hr (fun t ht hW => ⟨⟨_, rfl, by rw [ht]; exact h H hP hD⟩, hS.F ht⟩) hS.2.2 d hlk
theorem g_zret {Po : Option Value → Heap → Prop} {r : Int32} (C : Nx K D cy cc own A fr lo mc ms) (R0 : Re K (some .boolean) A mc ms Po) (hz : narrow .boolean (.int r) = .int r) (hce : ce ≤ mc) (hsl : sl ≤ ms) (pc : Nat) (d : decode cc pc = .ok (.ireturn, 1)) (h : ∀ H, va_P D vwCl ws H → va_D A ws → Po (some (.int r)) H) : Gn K D A ws ce sl pc L [.int r] := by
  obtain ⟨p, l, e, R, s, m, args, below, meth, c, nL, Q, ce0, sl0⟩ := K
  obtain ⟨hx, hb, hml, hown, hts, hK, hlk, hfr, hlo, hmc, hms, hA, hN⟩ := C
  obtain ⟨rfl, hr⟩ := R0
  intro H locs ls hP hD hS hl
  refine W.widen hce hsl ?_
  exact W.zret hx hb hr hz (fun t ht hW => ⟨⟨_, rfl, by rw [ht]; exact h H hP hD⟩, hS.F ht⟩) hS.2.2 d hlk
theorem g_aret {Po : Option Value → Heap → Prop} {q : Nat} {rt : FieldType} (C : Nx K D cy cc own A fr lo mc ms) (R0 : Re K (some rt) A mc ms Po) (hrt : (∃ n, rt = .object n) ∨ ∃ t, rt = .array t) (hce : ce ≤ mc) (hsl : sl ≤ ms) (pc : Nat) (d : decode cc pc = .ok (.areturn, 1)) (h : ∀ H, va_P D vwCl ws H → va_D A ws → Po (some (.ref q)) H) : Gn K D A ws ce sl pc L [.ref q] := by
  obtain ⟨p, l, e, R, s, m, args, below, meth, c, nL, Q, ce0, sl0⟩ := K
  obtain ⟨hx, hb, hml, hown, hts, hK, hlk, hfr, hlo, hmc, hms, hA, hN⟩ := C
  obtain ⟨rfl, hr⟩ := R0
  intro H locs ls hP hD hS hl
  refine W.widen hce hsl ?_
  exact W.aret hx hb hr hrt (Or.inr ⟨_, rfl⟩) (fun t ht hW => ⟨⟨_, rfl, by rw [ht]; exact h H hP hD⟩, hS.F ht⟩) hS.2.2 d hlk
end GE
/-- what a method that only asks has for its end -/
abbrev PoQ (D : va_G) (sz : Nat) (Rp : Option Value → va_W → Prop) : Option Value → Heap → Prop := fun rv H => ∃ nl, Rp rv nl ∧ va_P D vwCl nl H ∧ va_D (fun q => sz ≤ q) nl
/-- a contract of a method that only asks, out of a walk of its body -/
theorem Cq_intro {l : Launch} {D : va_G} {cy : Nat → ClassId} {y : MethodName} {b : ByteArray} {n : Nat} {ret : Option FieldType} {fr lo mc ms : Nat} {As : List Value} {wl : va_W} {Rp : Option Value → va_W → Prop} {own : String} (hy : plainName y.cls = true) (hyc : y.cls = own) (hsz : (lg_sl As).length ≤ n) (L0 : List (Nat × Value)) (hL : lv_args 0 As = L0)
    (h : ∀ K : Kt, Kl K = l → Kn K = n → Nx K D cy b own (fun q => (Ks K).heap.size ≤ q) fr lo mc ms → CSt (Ks K) → Wc K D (fun q => (Ks K).heap.size ≤ q) wl → Re K ret (fun q => (Ks K).heap.size ≤ q) mc ms (PoQ D (Ks K).heap.size Rp) → Gn K D (fun q => (Ks K).heap.size ≤ q) [] 0 0 0 L0 []) : Cq l D cy y b n ret fr lo mc ms As wl Rp := by
  intro sz
  refine Met.ofW (cc := b) (maxL := n) (ret := ret) hy rfl ?_
  intro p e s m args below meth c s₁ B hml hv
  obtain ⟨rfl, hsz2, hK, ⟨hN, hcs⟩, hP⟩ := hv
  subst hsz2
  have hts := atoms_spec (ws := Cond.code y b n ret :: gw_tbl) B.pre
  have hown : s.vm.findClass own = some m.cls := by rw [← hyc]; exact findClass_of_methodNamed B.named
  have hl := lv_entry As (n := n) hsz
  rw [hL] at hl
  have g := h (p, l, e, (headSpec (Cond.code y b n ret :: gw_tbl) { frames := fr, cells := mc, slots := ms, locals := lo }).room, s, m, As.toArray, below, meth, c, n, MQ below (fun _ st oc t => (∃ rv, oc = .returned rv ∧ PoQ D s.heap.size Rp rv t.heap) ∧ va_F (fun q => s.heap.size ≤ q) st t) As.toArray s mc ms (fun q => s.heap.size ≤ q), 0, 0) rfl rfl ⟨B.exec, B.bytes, hml, hown, fun w hw => hts w (List.mem_cons_of_mem _ hw), hK, B.notSynchronized, Nat.le_refl _, Nat.le_refl _, Nat.le_refl _, Nat.le_refl _, fun q hq => hq, hN⟩ hcs ⟨hP, fun j x hx => Nat.not_le.mpr (hP j x hx).lt⟩ ⟨rfl, B.returns⟩
  rw [lg_entry_eq]
  exact g s.heap [] _ (fun k q h => by simp at h) ⟨fun i j p q h => by simp at h, fun k q h => by simp at h⟩ va_S.rf hl
