/-! constructors: the world comes to be. Gn: from here, the heap holding the list ws of cells, the machine goes on to its end -/
abbrev T6 (cy : Nat → ClassId) : List (ClassId × FieldType) := [(cy 0, .byte), (cy 1, .int), (cy 2, .long), (cy 3, .boolean), (cy 4, .object "TentativeDesk$Going"), (cy 5, .array .long), (cy 6, .array .int), (cy 7, .array (.array .int)), (cy 8, .array .boolean)]
/-- what the tables say besides of links between nest mates and of arrays of references -/
def NWl : List Cond := [.methodLinkNest RX3 11 yX6_init RX8, .methodLinkNest RX8 41 yX1_init RX8, .methodLinkNest RX8 48 yX2_init RX8, .methodLinkNest RX8 63 yX4_init RX8, .methodLinkNest RX4 11 yX0_init RX8, .methodLinkNest RX8 73 yX5_init RX8, .methodLinkNest RL 47 yN9_init RL, .fieldLinkNest "TentativeDeskLaw" 52 "TentativeDeskLaw$Net" "copies" "I" "TentativeDeskLaw", .fieldLinkNest "TentativeDeskLaw" 58 "TentativeDeskLaw$Net" "cells" "I" "TentativeDeskLaw", .fieldLinkNest "TentativeDeskLaw" 61 "TentativeDeskLaw$Net" "forms" "I" "TentativeDeskLaw", .fieldLinkNest "TentativeDeskLaw" 48 "TentativeDeskLaw$Net" "seed" "I" "TentativeDeskLaw", .fieldLinkNest "TentativeDeskLaw" 140 "TentativeDeskLaw$Net" "writes" "I" "TentativeDeskLaw", .fieldLinkNest "TentativeDeskLaw" 188 "TentativeDeskLaw$Net" "ordered" "I" "TentativeDeskLaw", .fieldLinkNest "TentativeDeskLaw" 55 "TentativeDeskLaw$Net" "primary" "I" "TentativeDeskLaw", .fieldLinkNest "TentativeDeskLaw" 191 "TentativeDeskLaw$Net" "chances" "I" "TentativeDeskLaw", .fieldLinkNest "TentativeDeskLaw" 70 "TentativeDeskLaw$Net" "first" "[I" "TentativeDeskLaw", .fieldLinkNest "TentativeDeskLaw" 75 "TentativeDeskLaw$Net" "form" "[[[I" "TentativeDeskLaw", .fieldLinkNest "TentativeDeskLaw" 151 "TentativeDeskLaw$Net" "write" "[[I" "TentativeDeskLaw", .fieldLinkNest "TentativeDeskLaw" 106 "TentativeDeskLaw$Net" "knows" "[I" "TentativeDeskLaw", .fieldLinkNest "TentativeDeskLaw" 109 "TentativeDeskLaw$Net" "rolled" "[I" "TentativeDeskLaw", .fieldLinkNest "TentativeDeskLaw" 112 "TentativeDeskLaw$Net" "again" "[I" "TentativeDeskLaw", .fieldLinkNest "TentativeDeskLaw" 115 "TentativeDeskLaw$Net" "opens" "[I" "TentativeDeskLaw", .fieldLinkNest "TentativeDeskLaw" 166 "TentativeDeskLaw$Net" "refused" "[I" "TentativeDeskLaw", .fieldLinkNest "TentativeDeskLaw" 163 "TentativeDeskLaw$Net" "promise" "[I" "TentativeDeskLaw", .fieldLinkNest "TentativeDeskLaw" 172 "TentativeDeskLaw$Net" "got" "[I" "TentativeDeskLaw", .fieldLinkNest "TentativeDeskLaw" 186 "TentativeDeskLaw$Net" "shut" "[I" "TentativeDeskLaw", .fieldLinkNest "TentativeDeskLaw" 143 "TentativeDeskLaw$Net" "has" "[[Z" "TentativeDeskLaw", .fieldLinkNest "TentativeDeskLaw" 177 "TentativeDeskLaw$Net" "seen" "[[I" "TentativeDeskLaw", .fieldLinkNest "TentativeDeskLaw" 180 "TentativeDeskLaw$Net" "own" "[[I" "TentativeDeskLaw"]
def va_AOT (ty : FieldType) (U : State) : Prop := (Cond.arrayOver (.array ty)).before #[] U = true
abbrev va_AOL (U : State) : Prop := va_AOT .long U
def NW (U : State) : Prop := (∀ w ∈ NWl, va_Nw w U) ∧ va_AO "TentativeDesk$Going" U ∧ va_AOL U ∧ va_AOT .int U ∧ va_AOT (.array .int) U ∧ va_AOT .boolean U
theorem va_AOT.moved {ty : FieldType} {u U : State} (hvm : u.vm.Alike U.vm) (h : va_AOT ty u) : va_AOT ty U := by
  obtain ⟨comp, c, k, h1, h2, h3, h4, h5⟩ := arrayOverA_spec h
  obtain ⟨k', hk', he⟩ := hvm.2.2 _ _ h3
  have hi : (U.vm.classes.findIdx? fun (x : Class) => match x.kind with | .array component _ => component == comp | _ => false) = some c := by
    rw [hvm.findIdx?_eq _ (fun _ => rfl)]
    exact h2
  have hk2 : k'.kind = .array comp (.array ty) := by rw [he]; exact h4
  have f1 : U.vm.findClass (FieldType.array ty).toString = some comp := by rw [hvm.findClass]; exact h1
  have f2 : U.vm.findClass ("[" ++ (FieldType.array ty).toString) = some c := by rw [hvm.findClass]; exact h5
  unfold va_AOT Cond.before Cond.holds
  simp only [Cond.value]
  rw [f1, Option.bind_some]
  refine (congrArg (fun o : Option Nat => (o.bind (fun c => (U.vm.classes[c]?).map fun (k : Class) => match k.kind with | .array _ ty2 => decide (ty2 = FieldType.array ty) && decide (U.vm.findClass ("[" ++ (FieldType.array ty).toString) = some c) | _ => false) == some true)) hi).trans ?_
  simp [hk', hk2, f2]
theorem NW.warm {s U : State} (hW : s.WarmedH U.vm) (h : NW s) : NW U := by
  refine ⟨fun w hw => ?_, va_AO.moved hW.alike h.2.1, va_AOT.moved hW.alike h.2.2.1, va_AOT.moved hW.alike h.2.2.2.1, va_AOT.moved hW.alike h.2.2.2.2.1, va_AOT.moved hW.alike h.2.2.2.2.2⟩
  have h1 := h.1 w hw
  simp only [NWl, List.mem_cons, List.not_mem_nil, or_false] at hw
  rcases hw with rfl | rfl | rfl | rfl | rfl | rfl | rfl | rfl | rfl | rfl | rfl | rfl | rfl | rfl | rfl | rfl | rfl | rfl | rfl | rfl | rfl | rfl | rfl | rfl | rfl | rfl | rfl | rfl | rfl <;> first | exact va_Nw.warmM hW h1 | exact va_Nw.warmF hW h1
theorem NW.calling {U : State} {g : JFrame} {mk : MethodId} {a : Array Value} (h : NW U) : NW (U.calling g mk a) := by
  refine ⟨fun w hw => ?_, va_AO.moved (u := U) (U := U.calling g mk a) (Vm.Alike.refl U.vm) h.2.1, va_AOT.moved (u := U) (U := U.calling g mk a) (Vm.Alike.refl U.vm) h.2.2.1, va_AOT.moved (u := U) (U := U.calling g mk a) (Vm.Alike.refl U.vm) h.2.2.2.1, va_AOT.moved (u := U) (U := U.calling g mk a) (Vm.Alike.refl U.vm) h.2.2.2.2.1, va_AOT.moved (u := U) (U := U.calling g mk a) (Vm.Alike.refl U.vm) h.2.2.2.2.2⟩
  have h1 := h.1 w hw
  simp only [NWl, List.mem_cons, List.not_mem_nil, or_false] at hw
  rcases hw with rfl | rfl | rfl | rfl | rfl | rfl | rfl | rfl | rfl | rfl | rfl | rfl | rfl | rfl | rfl | rfl | rfl | rfl | rfl | rfl | rfl | rfl | rfl | rfl | rfl | rfl | rfl | rfl | rfl <;> exact va_Nw.same (u := U) (U := U.calling g mk a) rfl rfl h1
def Nx (K : Kt) (D : va_G) (cy : Nat → ClassId) (cc : ByteArray) (own : String) (A : Nat → Prop) (fr lo mc ms : Nat) : Prop :=
  match K with
  | (p, _, _, R, s, m, args, _, meth, c, nL, _, _, _) => p.tables.exec = Jvm.exec ∧ c.code = cc ∧ c.maxLocals = nL ∧ s.vm.findClass own = some m.cls ∧ (∀ w ∈ gw_tbl, w.before args s = true) ∧ va_K D vwCl (T6 cy) s ∧ meth.locks = false ∧ fr ≤ R.frames ∧ lo ≤ R.locals ∧ mc ≤ R.cells ∧ ms ≤ R.slots ∧ (∀ q, s.heap.size ≤ q → A q) ∧ NW s
def Ni (K : Kt) : Prop := match K with
  | (_, _, _, _, _, _, _, _, meth, _, _, _, _, _) => meth.name = "<init>" ∧ meth.sig.returnType = none
def Gn (K : Kt) (D : va_G) (A : Nat → Prop) (ws : va_W) (ce sl : Nat) (pc : Nat) (L : List (Nat × Value)) (st : List Value) : Prop :=
  match K with
  | (p, l, e, R, s, m, args, below, meth, c, nL, Q, _, _) => ∀ (H : Heap) (locs : List Loc) (ls : Array Slot), va_P D vwCl ws H → va_D A ws → va_S A s.heap H locs → lv_has ls nL L → W p l e R s m args below meth c H locs ce sl Q (F0 m pc ls st)
theorem va_nd_range : ∀ (n k : Nat), va_nd (List.range' k n) = true
  | 0, _ => rfl
  | n + 1, k => by
    rw [List.range'_succ]
    simp only [va_nd, Bool.and_eq_true, decide_eq_true_eq]
    refine ⟨fun h => ?_, va_nd_range n (k + 1)⟩
    have := (List.mem_range'_1.mp h).1
    omega
/-- what a constructor laid, beside the rest -/
theorem n_join {A : Nat → Prop} {D : va_G} {ws w1 : va_W} {q : Nat} {e : va_E} {H H1 : Heap} (hP : va_P D vwCl (ws ++ [(q, e)]) H) (hD : va_D A (ws ++ [(q, e)])) (hk : ∀ a : Nat, a < H.size → ¬ va_A [(q, e)] H.size a → H1[a]? = H[a]?) (hF : ∀ a, va_A [(q, e)] H.size a → A a) (hP1 : va_P D vwCl w1 H1) (hD1 : va_D (va_A [(q, e)] H.size) w1) : va_P D vwCl (ws ++ w1) H1 ∧ va_D A (ws ++ w1) := by
  refine va_join (wc := [(q, e)]) (wr := ws) hP hD [ws.length] (List.range' 0 ws.length) (by simp) ?_ (va_nd_range _ _) (fun i hi h => ?_) hk hF hP1 hD1
  · apply List.ext_getElem?
    intro i
    rw [List.getElem?_map, List.getElem?_map]
    by_cases hi : i < ws.length
    · rw [List.getElem?_range' hi]
      simp [hi, List.getElem?_append_left]
    · rw [List.getElem?_eq_none (by simp; omega), List.getElem?_eq_none (by omega)]
      rfl
  · have h1 := (List.mem_range'_1.mp hi).2
    have h2 := List.mem_singleton.mp h
    omega
section NR
variable {K : Kt} {D : va_G} {cy : Nat → ClassId} {cc : ByteArray} {own : String} {A : Nat → Prop} {fr lo mc ms ce sl : Nat} {ws : va_W} {L : List (Nat × Value)} {rest : List Value}
theorem n_iconst (C : Nx K D cy cc own A fr lo mc ms) (pc : Nat) {n : Int} {v : Int32} (d : decode cc pc = .ok (.iconst n, 1)) (hv : Int32.ofInt n = v) (k : Gn K D A ws ce sl (pc + 1) L (.int v :: rest)) : Gn K D A ws ce sl pc L rest := by
  obtain ⟨p, l, e, R, s, m, args, below, meth, c, nL, Q, ce0, sl0⟩ := K
  obtain ⟨hx, hb, hml, hown, hts, hK, hlk, hfr, hlo, hmc, hms, hA, hN⟩ := C
  intro H locs ls hP hD hS hl
  exact lv_iconst hx hb d hv (k H locs ls hP hD hS hl)
theorem n_bipush (C : Nx K D cy cc own A fr lo mc ms) (pc : Nat) {n : Int} {v : Int32} (d : decode cc pc = .ok (.bipush n, 2)) (hv : (Int8.ofInt n).toInt32 = v) (k : Gn K D A ws ce sl (pc + 2) L (.int v :: rest)) : Gn K D A ws ce sl pc L rest := by
  obtain ⟨p, l, e, R, s, m, args, below, meth, c, nL, Q, ce0, sl0⟩ := K
  obtain ⟨hx, hb, hml, hown, hts, hK, hlk, hfr, hlo, hmc, hms, hA, hN⟩ := C
  intro H locs ls hP hD hS hl
  exact lv_bipush hx hb d hv (k H locs ls hP hD hS hl)
theorem n_sipush (C : Nx K D cy cc own A fr lo mc ms) (pc : Nat) {n : Int} {v : Int32} (d : decode cc pc = .ok (.sipush n, 3)) (hv : (Int16.ofInt n).toInt32 = v) (k : Gn K D A ws ce sl (pc + 3) L (.int v :: rest)) : Gn K D A ws ce sl pc L rest := by
  obtain ⟨p, l, e, R, s, m, args, below, meth, c, nL, Q, ce0, sl0⟩ := K
  obtain ⟨hx, hb, hml, hown, hts, hK, hlk, hfr, hlo, hmc, hms, hA, hN⟩ := C
  intro H locs ls hP hD hS hl
  exact lv_sipush hx hb d hv (k H locs ls hP hD hS hl)
theorem n_aload_n (C : Nx K D cy cc own A fr lo mc ms) (pc : Nat) {q : Fin 4} {x : Nat} (j : Nat) (d : decode cc pc = .ok (.aload_n q, 1)) (hj : L[j]? = some ((q : Nat), .ref x)) (k : Gn K D A ws ce sl (pc + 1) L (.ref x :: rest)) : Gn K D A ws ce sl pc L rest := by
  obtain ⟨p, l, e, R, s, m, args, below, meth, c, nL, Q, ce0, sl0⟩ := K
  obtain ⟨hx, hb, hml, hown, hts, hK, hlk, hfr, hlo, hmc, hms, hA, hN⟩ := C
  intro H locs ls hP hD hS hl
  exact lv_aload_n hx hb d rfl (lv_at hl j hj) (k H locs ls hP hD hS hl)
theorem n_iload_n (C : Nx K D cy cc own A fr lo mc ms) (pc : Nat) {q : Fin 4} {x : Int32} (j : Nat) (d : decode cc pc = .ok (.iload_n q, 1)) (hj : L[j]? = some ((q : Nat), .int x)) (k : Gn K D A ws ce sl (pc + 1) L (.int x :: rest)) : Gn K D A ws ce sl pc L rest := by
  obtain ⟨p, l, e, R, s, m, args, below, meth, c, nL, Q, ce0, sl0⟩ := K
  obtain ⟨hx, hb, hml, hown, hts, hK, hlk, hfr, hlo, hmc, hms, hA, hN⟩ := C
  intro H locs ls hP hD hS hl
  exact lv_iload_n hx hb d rfl (lv_at hl j hj) (k H locs ls hP hD hS hl)
theorem n_istore_n (C : Nx K D cy cc own A fr lo mc ms) (pc : Nat) {q4 : Fin 4} {i : Nat} {x : Int32} {L' : List (Nat × Value)} (d : decode cc pc = .ok (.istore_n q4, 1)) (hi : (q4 : Nat) = i) (hn : ∀ K2 : Kt, K = K2 → i < K2.2.2.2.2.2.2.2.2.2.2.1) (hl : (i, Value.int x) :: L.filter (fun q => !(q.1 == i) && !(q.1 + 1 == i && q.2.category == 2)) = L') (k : Gn K D A ws ce sl (pc + 1) L' rest) : Gn K D A ws ce sl pc L (.int x :: rest) := by
  obtain ⟨p, l, e, R, s, m, args, below, meth, c, nL, Q, ce0, sl0⟩ := K
  obtain ⟨hx, hb, hml, hown, hts, hK, hlk, hfr, hlo, hmc, hms, hA, hN⟩ := C
  intro H locs ls hP hD hS hl2
  exact lv_istore_n hx hb d hi hl2 (hn _ rfl) hl (fun ls2 h2 => k H locs ls2 hP hD hS h2)
theorem n_astore_n (C : Nx K D cy cc own A fr lo mc ms) (pc : Nat) {q4 : Fin 4} {i : Nat} {x : Nat} {L' : List (Nat × Value)} (d : decode cc pc = .ok (.astore_n q4, 1)) (hi : (q4 : Nat) = i) (hn : ∀ K2 : Kt, K = K2 → i < K2.2.2.2.2.2.2.2.2.2.2.1) (hl : (i, Value.ref x) :: L.filter (fun q => !(q.1 == i) && !(q.1 + 1 == i && q.2.category == 2)) = L') (k : Gn K D A ws ce sl (pc + 1) L' rest) : Gn K D A ws ce sl pc L (.ref x :: rest) := by
  obtain ⟨p, l, e, R, s, m, args, below, meth, c, nL, Q, ce0, sl0⟩ := K
  obtain ⟨hx, hb, hml, hown, hts, hK, hlk, hfr, hlo, hmc, hms, hA, hN⟩ := C
  intro H locs ls hP hD hS hl2
  exact lv_astore_n hx hb d hi hl2 (hn _ rfl) hl (fun ls2 h2 => k H locs ls2 hP hD hS h2)
theorem n_iinc (C : Nx K D cy cc own A fr lo mc ms) (pc : Nat) {i : Nat} (j : Nat) {n : Int} {x v : Int32} {L' : List (Nat × Value)} (d : decode cc pc = .ok (.iinc i n, 3)) (hj : L[j]? = some (i, .int x)) (hv : x + Int32.ofInt n = v) (hn : ∀ K2 : Kt, K = K2 → i < K2.2.2.2.2.2.2.2.2.2.2.1) (hl : (i, Value.int v) :: L.filter (fun q => !(q.1 == i) && !(q.1 + 1 == i && q.2.category == 2)) = L') (k : Gn K D A ws ce sl (pc + 3) L' rest) : Gn K D A ws ce sl pc L rest := by
  obtain ⟨p, l, e, R, s, m, args, below, meth, c, nL, Q, ce0, sl0⟩ := K
  obtain ⟨hx, hb, hml, hown, hts, hK, hlk, hfr, hlo, hmc, hms, hA, hN⟩ := C
  intro H locs ls hP hD hS hl2
  exact lv_iinc hx hb d hl2 hj hv (hn _ rfl) hl (fun ls2 h2 => k H locs ls2 hP hD hS h2)
theorem n_dup (C : Nx K D cy cc own A fr lo mc ms) (pc : Nat) {v : Value} (d : decode cc pc = .ok (.dup, 1)) (hv : v.category = 1) (k : Gn K D A ws ce sl (pc + 1) L (v :: v :: rest)) : Gn K D A ws ce sl pc L (v :: rest) := by
  obtain ⟨p, l, e, R, s, m, args, below, meth, c, nL, Q, ce0, sl0⟩ := K
  obtain ⟨hx, hb, hml, hown, hts, hK, hlk, hfr, hlo, hmc, hms, hA, hN⟩ := C
  intro H locs ls hP hD hS hl
  exact lv_dup hx hb d hv (k H locs ls hP hD hS hl)
theorem n_goto (C : Nx K D cy cc own A fr lo mc ms) (pc tgt : Nat) {off : Int} (d : decode cc pc = .ok (.goto off, 3)) (ht : (pc : Int) + off = (tgt : Int)) (k : Gn K D A ws ce sl tgt L rest) : Gn K D A ws ce sl pc L rest := by
  obtain ⟨p, l, e, R, s, m, args, below, meth, c, nL, Q, ce0, sl0⟩ := K
  obtain ⟨hx, hb, hml, hown, hts, hK, hlk, hfr, hlo, hmc, hms, hA, hN⟩ := C
  intro H locs ls hP hD hS hl
  exact lv_goto hx hb d ht (k H locs ls hP hD hS hl)
theorem n_ge_in (C : Nx K D cy cc own A fr lo mc ms) (pc tgt : Nat) {x y : Int32} {off : Int} (d : decode cc pc = .ok (.if_icmp .ge off, 3)) (ht : (pc : Int) + off = (tgt : Int)) (hc : ¬ y ≤ x) (k : Gn K D A ws ce sl (pc + 3) L rest) : Gn K D A ws ce sl pc L (.int y :: .int x :: rest) := by
  obtain ⟨p, l, e, R, s, m, args, below, meth, c, nL, Q, ce0, sl0⟩ := K
  obtain ⟨hx, hb, hml, hown, hts, hK, hlk, hfr, hlo, hmc, hms, hA, hN⟩ := C
  intro H locs ls hP hD hS hl
  exact lv_icmp_ge hx hb d ht (fun h => absurd h hc) (fun _ => k H locs ls hP hD hS hl)
theorem n_ge_out (C : Nx K D cy cc own A fr lo mc ms) (pc tgt : Nat) {x y : Int32} {off : Int} (d : decode cc pc = .ok (.if_icmp .ge off, 3)) (ht : (pc : Int) + off = (tgt : Int)) (hc : y ≤ x) (k : Gn K D A ws ce sl tgt L rest) : Gn K D A ws ce sl pc L (.int y :: .int x :: rest) := by
  obtain ⟨p, l, e, R, s, m, args, below, meth, c, nL, Q, ce0, sl0⟩ := K
  obtain ⟨hx, hb, hml, hown, hts, hK, hlk, hfr, hlo, hmc, hms, hA, hN⟩ := C
  intro H locs ls hP hD hS hl
  exact lv_icmp_ge hx hb d ht (fun _ => k H locs ls hP hD hS hl) (fun h => absurd hc h)
theorem n_objInit (C : Nx K D cy cc own A fr lo mc ms) (pc : Nat) {idx a : Nat} (hl1 : Cond.methodLink own idx Lib.objectInit ∈ gw_tbl) (hi1 : Cond.instanceMethod Lib.objectInit ∈ gw_tbl) (hc1 : Cond.code Lib.objectInit ⟨#[0xb1]⟩ 1 none ∈ gw_tbl) (hf : 1 ≤ fr) (hw : 12 ≤ lo) (d : decode cc pc = .ok (.invokespecial idx, 3)) (k : Gn K D A ws ce sl (pc + 3) L []) : Gn K D A ws ce sl pc L [.ref a] := by
  obtain ⟨p, l, e, R, s, m, args, below, meth, c, nL, Q, ce0, sl0⟩ := K
  obtain ⟨hx, hb, hml, hown, hts, hK, hlk, hfr, hlo, hmc, hms, hA, hN⟩ := C
  intro H locs ls hP hD hS hl
  refine W.objInit hx hb hown (hts _ hl1) (hts _ hi1) (hts _ hc1) rfl (by rw [hml]; exact hl.1) rfl d (Nat.le_trans hf hfr) (Nat.le_trans hw hlo) ?_
  exact W.eq (g2 := F0 m (pc + 3) ls []) rfl (k H locs ls hP hD hS hl)
theorem n_get (C : Nx K D cy cc own A fr lo mc ms) (pc : Nat) {ci N idx a : Nat} {ref Cn : String} {T : u_T} {fs : List Value} {v : Value} (i : Nat) (hc : ws[i]? = some (a, .inr (ci, fs))) (hcl : vwCl[ci]? = some (Cn, T, N)) (hin : ∀ w ∈ u_ws Cn T N, w ∈ gw_tbl) (j : Nat) (hj : j < N) (hw : Cond.fieldLink own idx ref (T j).2.1 (T j).2.2.1 ∈ gw_tbl) (hr : (T j).1 = ref) (hv : fs[j]? = some v) (d : decode cc pc = .ok (.getfield idx, 3)) (k : Gn K D A ws ce sl (pc + 3) L (v :: rest)) : Gn K D A ws ce sl pc L (.ref a :: rest) := by
  obtain ⟨p, l, e, R, s, m, args, below, meth, c, nL, Q, ce0, sl0⟩ := K
  obtain ⟨hx, hb, hml, hown, hts, hK, hlk, hfr, hlo, hmc, hms, hA, hN⟩ := C
  intro H locs ls hP hD hS hl
  exact va_get hx hb hts hin hown hK hP i hc hcl j hj (hts _ hw) (fun _ h => by rw [← hr]; exact h) hv d (k H locs ls hP hD hS hl)
theorem n_put {tl : va_W} {a ci : Nat} {fs : List Value} (C : Nx K D cy cc own A fr lo mc ms) (pc : Nat) {N idx : Nat} {ref Cn : String} {T : u_T} {v : Value} {ty : FieldType} (hcl : vwCl[ci]? = some (Cn, T, N)) (hin : ∀ w ∈ u_ws Cn T N, w ∈ gw_tbl) (tyf : Nat → FieldType) (hty : ∀ k, k < N → parseFieldDescriptor (T k).2.2.1 = some (tyf k)) (hnm : ∀ a, a < N → ∀ b, b < N → a ≠ b → (T a).2.1 ≠ (T b).2.1) (j : Nat) (hj : j < N) (hw : Cond.fieldLink own idx ref (T j).2.1 (T j).2.2.1 ∈ gw_tbl) (hr : (T j).1 = ref) (hfin : (T j).2.2.2 = false) (hd : parseFieldDescriptor (T j).2.2.1 = some ty) (hn : narrow ty v = v) (hfit : fits ty v = true) (hlen : j < fs.length) (d : decode cc pc = .ok (.putfield idx, 3)) (k : Gn K D A ((a, .inr (ci, fs.set j v)) :: tl) ce sl (pc + 3) L rest) : Gn K D A ((a, .inr (ci, fs)) :: tl) ce sl pc L (v :: .ref a :: rest) := by
  obtain ⟨p, l, e, R, s, m, args, below, meth, c, nL, Q, ce0, sl0⟩ := K
  obtain ⟨hx, hb, hml, hown, hts, hK, hlk, hfr, hlo, hmc, hms, hA, hN⟩ := C
  intro H locs ls hP hD hS hl
  exact va_put hx hb hts hin tyf hty hnm hown hK hP hD hS 0 rfl hcl j hj (hts _ hw) (fun _ h => by rw [← hr]; exact h) hfin hd hn hfit hlen d (fun H1 locs1 hP1 hD1 hS1 => k H1 locs1 ls hP1 hD1 hS1 hl)
theorem n_putF {tl : va_W} {a ci : Nat} {fs : List Value} (C : Nx K D cy cc own A fr lo mc ms) (hi : Ni K) (pc : Nat) {N idx : Nat} {ref Cn : String} {T : u_T} {v : Value} {ty : FieldType} (hcl : vwCl[ci]? = some (Cn, T, N)) (hin : ∀ w ∈ u_ws Cn T N, w ∈ gw_tbl) (tyf : Nat → FieldType) (hty : ∀ k, k < N → parseFieldDescriptor (T k).2.2.1 = some (tyf k)) (hnm : ∀ a, a < N → ∀ b, b < N → a ≠ b → (T a).2.1 ≠ (T b).2.1) (j : Nat) (hj : j < N) (hw : Cond.fieldLink own idx ref (T j).2.1 (T j).2.2.1 ∈ gw_tbl) (hr : (T j).1 = ref) (hfin : (T j).2.2.2 = true) (hdecl : (T j).1 = own) (hd : parseFieldDescriptor (T j).2.2.1 = some ty) (hn : narrow ty v = v) (hfit : fits ty v = true) (hlen : j < fs.length) (d : decode cc pc = .ok (.putfield idx, 3)) (k : Gn K D A ((a, .inr (ci, fs.set j v)) :: tl) ce sl (pc + 3) L rest) : Gn K D A ((a, .inr (ci, fs)) :: tl) ce sl pc L (v :: .ref a :: rest) := by
  obtain ⟨p, l, e, R, s, m, args, below, meth, c, nL, Q, ce0, sl0⟩ := K
  obtain ⟨hx, hb, hml, hown, hts, hK, hlk, hfr, hlo, hmc, hms, hA, hN⟩ := C
  intro H locs ls hP hD hS hl
  exact va_putF hx hb hts hin tyf hty hnm hown hK hP hD hS 0 rfl hcl j hj (hts _ hw) (fun _ h => by rw [← hr]; exact h) hfin hi.1 hdecl hd hn hfit hlen d (fun H1 locs1 hP1 hD1 hS1 => k H1 locs1 ls hP1 hD1 hS1 hl)
theorem n_new (C : Nx K D cy cc own A fr lo mc ms) (pc : Nat) {Cn : String} {T : u_T} {N ci idx : Nat} (hin : ∀ w ∈ u_ws Cn T N, w ∈ gw_tbl) (ty : Nat → FieldType) (hty : ∀ k, k < N → parseFieldDescriptor (T k).2.2.1 = some (ty k)) (hc1 : Cond.classLink own idx Cn ∈ gw_tbl) (hi1 : Cond.instantiable Cn N ∈ gw_tbl) (hn1 : Cond.initialized Cn ∈ gw_tbl) (hc : vwCl[ci]? = some (Cn, T, N)) {fs : List Value} (hfs : ∀ j, j < N → defaultValue (ty j) = vp_V fs j) (hce : ce + 1 ≤ mc) (hsl : sl + N ≤ ms) (d : decode cc pc = .ok (.new idx, 3)) (k : ∀ q, Gn K D A (ws ++ [(q, .inr (ci, fs))]) (ce + 1) (sl + N) (pc + 3) L (.ref q :: rest)) : Gn K D A ws ce sl pc L rest := by
  obtain ⟨p, l, e, R, s, m, args, below, meth, c, nL, Q, ce0, sl0⟩ := K
  obtain ⟨hx, hb, hml, hown, hts, hK, hlk, hfr, hlo, hmc, hms, hA, hN⟩ := C
  intro H locs ls hP hD hS hl
  exact va_new hx hb hts hin ty hty hown (hts _ hc1) (hts _ hi1) (hts _ hn1) hK hP hD hS hA hc hfs (Nat.le_trans hce hmc) (Nat.le_trans hsl hms) d (fun q H1 hP1 hD1 hS1 => k q H1 locs ls hP1 hD1 hS1 hl)
theorem n_newa (C : Nx K D cy cc own A fr lo mc ms) (pc : Nat) {atype : ArrayType} {ty : FieldType} {cA0 : ClassId} (t0 : Nat) {n : Int32} {N : Nat} {a0 : vp_A} (hty : newarray.typeOf atype = ty) (h1 : Cond.arrayClass ty ∈ gw_tbl) (ht : (T6 cy)[t0]? = some (cA0, ty)) (hpr : ∀ U : State, va_RA U cA0 ty → U.vm.findClass ("[" ++ ty.toString) = some cA0) (ha : ∀ cA : ClassId, vp_cell cA a0 = arrV cA N (fun _ => defaultValue ty)) (hn : ¬ n < 0) (hNn : n.toNatClampNeg = N) (hbytes : N * componentBytes ty ≤ 536870912) (hce : ce + 1 ≤ mc) (hsl : sl + N ≤ ms) (d : decode cc pc = .ok (.newarray atype, 2)) (k : ∀ q, Gn K D A (ws ++ [(q, .inl (cA0, a0))]) (ce + 1) (sl + N) (pc + 2) L (.ref q :: rest)) : Gn K D A ws ce sl pc L (.int n :: rest) := by
  obtain ⟨p, l, e, R, s, m, args, below, meth, c, nL, Q, ce0, sl0⟩ := K
  obtain ⟨hx, hb, hml, hown, hts, hK, hlk, hfr, hlo, hmc, hms, hA, hN⟩ := C
  intro H locs ls hP hD hS hl
  subst hty
  refine va_newaK hx hb (hts _ h1) rfl d rfl hn hNn hbytes (Nat.le_trans hce hmc) (Nat.le_trans hsl hms) rfl (fun H1 cA e1 z1 o1 hAr hNm => ?_)
  have e0 : cA = cA0 := Option.some.inj (hNm.symm.trans (hpr _ (hK.2 t0 _ ht).2))
  subst e0
  have hq : ∀ (j : Nat) (x : Nat × va_E), ws[j]? = some x → x.1 < H.size := fun j x hx => (hP j x hx).lt
  refine k H.size H1 locs ls (va_P.app (fun j x hx => (hP j x hx).kept (o1 x.1 (hq j x hx))) ?_) ?_ ?_ hl
  · intro j x hx
    match j, hx with
    | 0, hx =>
      cases hx
      show H1[H.size]? = some (vp_cell cA a0)
      rw [ha]
      exact e1
    | j + 1, hx => simp at hx
  · refine va_D.app hD ⟨fun i j x y h1 h2 _ => ?_, fun j x hx => ?_⟩ (fun i j x y h1 h2 e => ?_)
    · match i, j, h1, h2 with
      | 0, 0, _, _ => rfl
      | 0, j + 1, _, h2 => simp at h2
      | i + 1, _, h1, _ => simp at h1
    · match j, hx with
      | 0, hx => cases hx; exact hA _ hS.1
      | j + 1, hx => simp at hx
    · match j, h2 with
      | 0, h2 =>
        cases h2
        have := hq i x h1
        have e2 : x.1 = H.size := e
        omega
      | j + 1, h2 => simp at h2
  · exact ⟨by rw [z1]; exact Nat.le_succ_of_le hS.1, fun a h1 h2 => by rw [o1 a (Nat.lt_of_lt_of_le h1 hS.1)]; exact hS.2.1 a h1 h2, hS.2.2⟩
end NR
/-- a constructor's contract: of the object h0, as new made it, come the cells 'cells u' -/
def Cn (l : Launch) (D : va_G) (cy : Nat → ClassId) (y : MethodName) (b : ByteArray) (n fr lo mc ms h0 : Nat) (As : List Value) (e0 : va_E) (X : Nat → State → Prop) (cells : (Nat → Nat) → va_W) : Prop :=
  ∀ sz : Nat, Met l y (.code y b n none :: gw_tbl) { frames := fr, cells := mc, slots := ms, locals := lo } (va_Pc (.ref h0 :: As) (fun U => U.heap.size = sz ∧ va_P D vwCl [(h0, e0)] U.heap ∧ va_K D vwCl (T6 cy) U ∧ va_D (fun _ => True) [(h0, e0)] ∧ NW U ∧ X sz U)) (va_Qv (fun _ : Nat → Nat => True) (fun u t => va_P D vwCl (cells u) t.heap ∧ va_D (va_A [(h0, e0)] sz) (cells u)) (va_A [(h0, e0)] sz)) mc ms (va_A [(h0, e0)] sz)
theorem n_callB {own : String} {y : MethodName} {b : ByteArray} {n f2 l2 k idx mc ms : Nat} {ret : Option FieldType} {R : Room} {s : State} {args : Array Value} (h : Mw y b n ret k) (hts : ∀ w ∈ gw_tbl, w.before args s = true) (hlink : Cond.methodLink own idx y ∈ gw_tbl) (hf : f2 + 1 ≤ R.frames) (hw : 8 + (n + 11) + l2 ≤ R.locals) :
    CallB R s args own idx y b n ret (.code y b n ret :: gw_tbl) { frames := f2, cells := mc, slots := ms, locals := l2 } mc ms k := by
  obtain ⟨h1, h2, h3, h4, h5⟩ := h
  refine ⟨rfl, rfl, hf, hw, gw_pay _ h1 h2 hts, List.mem_cons_self, hts _ h2, hts _ h3, h4, fun sig hs => ?_, hts _ hlink⟩
  rw [hs] at h5
  exact (Option.some.inj h5).symm
theorem n_P1 {D : va_G} {ws : va_W} {x : Nat × va_E} {H : Heap} (hP : va_P D vwCl (ws ++ [x]) H) : va_P D vwCl [x] H := by
  intro j z hz
  match j, hz with
  | 0, hz =>
    cases hz
    exact hP ws.length x (by simp)
  | j + 1, hz => simp at hz
theorem n_D1 (x : Nat × va_E) : va_D (fun _ => True) [x] := by
  refine ⟨fun i j p q h1 h2 _ => ?_, fun _ _ _ => trivial⟩
  match i, j, h1, h2 with
  | 0, 0, _, _ => rfl
  | 0, j + 1, _, h2 => simp at h2
  | i + 1, _, h1, _ => simp at h1
theorem n_F1 {A : Nat → Prop} {ws : va_W} {q : Nat} {e : va_E} {H H0 : Heap} (hD : va_D A (ws ++ [(q, e)])) (hA : ∀ a, H0.size ≤ a → A a) (hz : H0.size ≤ H.size) : ∀ a, va_A [(q, e)] H.size a → A a := by
  rintro a (⟨k, e', hk⟩ | h)
  · match k, hk with
    | 0, hk =>
      cases hk
      exact hD.2 ws.length (q, e) (by simp)
    | k + 1, hk => simp at hk
  · exact hA a (Nat.le_trans hz h)
section NI
variable {K : Kt} {D : va_G} {cy : Nat → ClassId} {cc : ByteArray} {own : String} {A : Nat → Prop} {fr lo mc ms ce sl : Nat} {ws : va_W} {L : List (Nat × Value)} {rest : List Value}
theorem n_init (C : Nx K D cy cc own A fr lo mc ms) (pc : Nat) {idx : Nat} {y : MethodName} {b : ByteArray} {n fr2 lo2 mc2 ms2 q : Nat} {e0 : va_E} (As : List Value) {X : Nat → State → Prop} {cells : (Nat → Nat) → va_W} (hlink : Cond.methodLink own idx y ∈ gw_tbl) (hm : Mw y b n none As.length) (hins : Cond.instanceMethod y ∈ gw_tbl) (hy : y.name = "<init>") (hM : Cn (Kl K) D cy y b n fr2 lo2 mc2 ms2 q As e0 X cells)
    (hX1 : ∀ (sz : Nat) (a : Array Value) (U : State) (g : JFrame) (mk : MethodId), X sz U → X sz (U.calling g mk a)) (hX : ∀ K2 : Kt, K = K2 → ∀ (H : Heap) (locs : List Loc), va_P D vwCl (ws ++ [(q, e0)]) H → va_S A K2.2.2.2.2.1.heap H locs → ∀ U : State, U.heap = H → K2.2.2.2.2.1.WarmedH U.vm → X H.size U) (hfr2 : fr2 + 1 ≤ fr) (hlo2 : 8 + (n + 11) + lo2 ≤ lo) (hce : ce + mc2 ≤ mc) (hsl : sl + ms2 ≤ ms) (hrest : (rest.map fun v => v.category).sum ≤ 8) {st : List Value} (hst : st = As.reverse ++ .ref q :: rest) (d : decode cc pc = .ok (.invokespecial idx, 3)) (k : ∀ u, Gn K D A (ws ++ cells u) (ce + mc2) (sl + ms2) (pc + 3) L rest) : Gn K D A (ws ++ [(q, e0)]) ce sl pc L st := by
  subst hst
  obtain ⟨p, l, e, R, s, m, args, below, meth, c, nL, Q, ce0, sl0⟩ := K
  obtain ⟨hx, hb, hml, hown, hts, hK, hlk, hfr, hlo, hmc, hms, hA, hN⟩ := C
  intro H locs ls hP hD hS hl
  have hFc := n_F1 hD hA hS.1
  refine va_callv (va_runI (As := As) (rest := rest) ⟨hx, hb, hml, hown, hts⟩ (hM H.size) ⟨n_callB hm hts hlink (Nat.le_trans hfr2 hfr) (Nat.le_trans hlo2 hlo), hy, hts _ hins⟩ ⟨fun a U g mk h => ⟨h.1, h.2.1, h.2.2.1, va_K.moved (u := U) (U := U.calling g mk a) (Vm.Alike.refl U.vm) h.2.2.2.1, h.2.2.2.2.1, h.2.2.2.2.2.1.calling, hX1 _ _ _ _ _ h.2.2.2.2.2.2⟩, fun U hU hW => ⟨rfl, by rw [hU], by rw [hU]; exact n_P1 hP, va_K.moved hW.alike hK, n_D1 _, hN.warm hW, hX _ rfl H locs hP hS U hU hW⟩⟩ rfl rfl hl.1 rfl (lv_room hrest) d ⟨Nat.le_trans hce hmc, Nat.le_trans hsl hms⟩) hS (fun a _ h => hFc a h) hFc (fun u t H1 locs1 ht hvm _ hB hz1 hk1 hS1 => ?_)
  obtain ⟨hP1, hD1⟩ := hB
  rw [ht] at hP1
  obtain ⟨hP2, hD2⟩ := n_join hP hD hk1 hFc hP1 hD1
  exact k u H1 locs1 ls hP2 hD2 hS1 hl
theorem n_initN (C : Nx K D cy cc own A fr lo mc ms) (pc : Nat) {idx : Nat} {y : MethodName} {host : String} {b : ByteArray} {n fr2 lo2 mc2 ms2 q : Nat} {e0 : va_E} (As : List Value) {cells : (Nat → Nat) → va_W} (hlink : Cond.methodLinkNest own idx y host ∈ NWl) (hm : Mw y b n none As.length) (hins : Cond.instanceMethod y ∈ gw_tbl) (hy : y.name = "<init>") (hM : Cn (Kl K) D cy y b n fr2 lo2 mc2 ms2 q As e0 (fun _ _ => True) cells)
    (hfr2 : fr2 + 1 ≤ fr) (hlo2 : 8 + (n + 11) + lo2 ≤ lo) (hce : ce + mc2 ≤ mc) (hsl : sl + ms2 ≤ ms) (hrest : (rest.map fun v => v.category).sum ≤ 8) {st : List Value} (hst : st = As.reverse ++ .ref q :: rest) (d : decode cc pc = .ok (.invokespecial idx, 3)) (k : ∀ u, Gn K D A (ws ++ cells u) (ce + mc2) (sl + ms2) (pc + 3) L rest) : Gn K D A (ws ++ [(q, e0)]) ce sl pc L st := by
  subst hst
  obtain ⟨p, l, e, R, s, m, args, below, meth, c, nL, Q, ce0, sl0⟩ := K
  obtain ⟨hx, hb, hml, hown, hts, hK, hlk, hfr, hlo, hmc, hms, hA, hN⟩ := C
  intro H locs ls hP hD hS hl
  have hFc := n_F1 hD hA hS.1
  obtain ⟨m1, m2, m3, m4, m5⟩ := hm
  refine va_callv (va_runIN (As := As) (rest := rest) (host := host) ⟨hx, hb, hml, hown, hts⟩ (hM H.size) ⟨va_cnB As.length hts (fun w hw => ?_) rfl rfl rfl (hN.1 _ hlink) (hts _ m3) ⟨m4.1, m4.2, m5⟩ ⟨Nat.le_trans hfr2 hfr, Nat.le_trans hlo2 hlo⟩, hy, hts _ hins⟩ ⟨fun a U g mk h => ⟨h.1, h.2.1, h.2.2.1, va_K.moved (u := U) (U := U.calling g mk a) (Vm.Alike.refl U.vm) h.2.2.2.1, h.2.2.2.2.1, h.2.2.2.2.2.1.calling, trivial⟩, fun U hU hW => ⟨rfl, by rw [hU], by rw [hU]; exact n_P1 hP, va_K.moved hW.alike hK, n_D1 _, hN.warm hW, trivial⟩⟩ rfl rfl hl.1 rfl (lv_room hrest) d ⟨Nat.le_trans hce hmc, Nat.le_trans hsl hms⟩) hS (fun a _ h => hFc a h) hFc (fun u t H1 locs1 ht hvm _ hB hz1 hk1 hS1 => ?_)
  · have hm2 : w ∈ gw_tbl := by
      rcases List.mem_cons.mp hw with rfl | h
      · exact m2
      · exact h
    exact ⟨hm2, good_of_word (List.mem_filter.mp hm2).2⟩
  · obtain ⟨hP1, hD1⟩ := hB
    rw [ht] at hP1
    obtain ⟨hP2, hD2⟩ := n_join hP hD hk1 hFc hP1 hD1
    exact k u H1 locs1 ls hP2 hD2 hS1 hl
theorem n_anewG (C : Nx K D cy cc own A fr lo mc ms) (pc : Nat) {idx : Nat} {n : Int32} {N : Nat} (h1 : Cond.classLink own idx "TentativeDesk$Going" ∈ gw_tbl) (hn : ¬ n < 0) (hNn : n.toNatClampNeg = N) (hbytes : N * 4 ≤ 536870912) (hce : ce + 1 ≤ mc) (hsl : sl + N ≤ ms) (d : decode cc pc = .ok (.anewarray idx, 3)) (k : ∀ q, Gn K D A (ws ++ [(q, .inl (cy 4, N, .inr (.inr (.inr (.inr (fun _ => none))))))]) (ce + 1) (sl + N) (pc + 3) L (.ref q :: rest)) : Gn K D A ws ce sl pc L (.int n :: rest) := by
  obtain ⟨p, l, e, R, s, m, args, below, meth, c, nL, Q, ce0, sl0⟩ := K
  obtain ⟨hx, hb, hml, hown, hts, hK, hlk, hfr, hlo, hmc, hms, hA, hN⟩ := C
  intro H locs ls hP hD hS hl
  refine va_newq hx hb hown (hts _ h1) hN.2.1 hK hP hD hS hA hn hNn hbytes (Nat.le_trans hce hmc) (Nat.le_trans hsl hms) d (fun q cA H1 hK1 hP1 hD1 hS1 => ?_)
  have e0 : cA = cy 4 := by
    obtain ⟨-, -, -, -, -, h3⟩ := (hK1.2 9 (cA, .object "TentativeDesk$Going") rfl).2
    obtain ⟨-, -, -, -, -, h4⟩ := (hK.2 4 (cy 4, .object "TentativeDesk$Going") rfl).2
    exact Option.some.inj (h3.symm.trans h4)
  subst e0
  exact k q H1 locs ls hP1 hD1 hS1 hl
theorem n_aast (C : Nx K D cy cc own A fr lo mc ms) (pc : Nat) {a v ci n : Nat} {vs : List Value} {T : u_T} {N : Nat} {f : Nat → Option Nat} {i : Int32} (q0 qk : Nat) (ha : ws[q0]? = some (a, .inl (cy 4, n, .inr (.inr (.inr (.inr f)))))) (hv : ws[qk]? = some (v, .inr (ci, vs))) (hc : vwCl[ci]? = some ("TentativeDesk$Going", T, N)) (hin : ib i n) (d : decode cc pc = .ok (.aastore, 1)) (k : Gn K D A (ws.set q0 (a, .inl (cy 4, n, .inr (.inr (.inr (.inr (va_up f i.toNatClampNeg (some v)))))))) ce sl (pc + 1) L rest) : Gn K D A ws ce sl pc L (.ref v :: .int i :: .ref a :: rest) := by
  obtain ⟨p, l, e, R, s, m, args, below, meth, c, nL, Q, ce0, sl0⟩ := K
  obtain ⟨hx, hb, hml, hown, hts, hK, hlk, hfr, hlo, hmc, hms, hA, hN⟩ := C
  intro H locs ls hP hD hS hl
  exact va_astq hx hb hK hP hD hS q0 4 qk ci (r := ("TentativeDesk$Going", T, N)) ha rfl hv hc hin d (fun H1 locs1 hP1 hD1 hS1 => k H1 locs1 ls hP1 hD1 hS1 hl)
/-- the end of a constructor -/
theorem n_ret {p : Program} {l : Launch} {e : Env} {R : Room} {s : State} {m : MethodId} {args : Array Value} {below : List Frame} {meth : Method} {c : Code} {nL : Nat} {cells : (Nat → Nat) → va_W} (u : Nat → Nat) (C : Nx (p, l, e, R, s, m, args, below, meth, c, nL, MQ below (va_Qv (fun _ : Nat → Nat => True) (fun u t => va_P D vwCl (cells u) t.heap ∧ va_D A (cells u)) A) args s mc ms A, 0, 0) D cy cc own A fr lo mc ms) (hi : meth.sig.returnType = none) (hP : ∀ H, va_P D vwCl ws H → va_P D vwCl (cells u) H) (hD : va_D A ws → va_D A (cells u)) (hce : ce ≤ mc) (hsl : sl ≤ ms) (pc : Nat) (d : decode cc pc = .ok (.return_, 1)) : Gn (p, l, e, R, s, m, args, below, meth, c, nL, MQ below (va_Qv (fun _ : Nat → Nat => True) (fun u t => va_P D vwCl (cells u) t.heap ∧ va_D A (cells u)) A) args s mc ms A, 0, 0) D A ws ce sl pc L [] := by
  obtain ⟨hx, hb, hml, hown, hts, hK, hlk, hfr, hlo, hmc, hms, hA, hN⟩ := C
  intro H locs ls hP0 hD0 hS hl
  refine W.widen (k := mc) (n := ms) hce hsl ?_
  exact W.vret hx hb hi (fun t ht hW => ⟨⟨u, rfl, trivial, by rw [ht]; exact hP H hP0, hD hD0⟩, hS.F ht⟩) hS.2.2 d
end NI
/-- a constructor's contract from a walk of its body -/
theorem Cn_intro {l : Launch} {D : va_G} {cy : Nat → ClassId} {y : MethodName} {b : ByteArray} {n fr lo mc ms h0 : Nat} {As : List Value} {e0 : va_E} {X : Nat → State → Prop} {cells : (Nat → Nat) → va_W} {own : String} (hy : plainName y.cls = true) (hyc : y.cls = own) (hyn : y.name = "<init>") (hsz : (lg_sl (.ref h0 :: As)).length ≤ n) (L0 : List (Nat × Value)) (hL : lv_args 0 (.ref h0 :: As) = L0)
    (h : ∀ (p : Program) (e : Env) (R : Room) (s : State) (m : MethodId) (args : Array Value) (below : List Frame) (meth : Method) (c : Code), Nx (p, l, e, R, s, m, args, below, meth, c, n, MQ below (va_Qv (fun _ : Nat → Nat => True) (fun u t => va_P D vwCl (cells u) t.heap ∧ va_D (va_A [(h0, e0)] s.heap.size) (cells u)) (va_A [(h0, e0)] s.heap.size)) args s mc ms (va_A [(h0, e0)] s.heap.size), 0, 0) D cy b own (va_A [(h0, e0)] s.heap.size) fr lo mc ms → meth.name = "<init>" ∧ meth.sig.returnType = none → X s.heap.size s → h0 < s.heap.size →
      Gn (p, l, e, R, s, m, args, below, meth, c, n, MQ below (va_Qv (fun _ : Nat → Nat => True) (fun u t => va_P D vwCl (cells u) t.heap ∧ va_D (va_A [(h0, e0)] s.heap.size) (cells u)) (va_A [(h0, e0)] s.heap.size)) args s mc ms (va_A [(h0, e0)] s.heap.size), 0, 0) D (va_A [(h0, e0)] s.heap.size) [(h0, e0)] 0 0 0 L0 []) : Cn l D cy y b n fr lo mc ms h0 As e0 X cells := by
  intro sz
  refine Met.ofW (cc := b) (maxL := n) (ret := none) hy rfl ?_
  intro p e s m args below meth c s₁ B hml hv
  obtain ⟨rfl, hsz2, hP, hK, hD, hN, hX⟩ := hv
  subst hsz2
  have hts := atoms_spec (ws := Cond.code y b n none :: gw_tbl) B.pre
  have hown : s.vm.findClass own = some m.cls := by rw [← hyc]; exact findClass_of_methodNamed B.named
  have hl := lv_entry (.ref h0 :: As) (n := n) hsz
  rw [hL] at hl
  have hin : meth.name = "<init>" := by rw [← hyn]; exact (name_of_methodNamed B.named B.method).1
  have g := h p e (headSpec (Cond.code y b n none :: gw_tbl) { frames := fr, cells := mc, slots := ms, locals := lo }).room s m _ below meth c ⟨B.exec, B.bytes, hml, hown, fun w hw => hts w (List.mem_cons_of_mem _ hw), hK, B.notSynchronized, Nat.le_refl _, Nat.le_refl _, Nat.le_refl _, Nat.le_refl _, fun q hq => Or.inr hq, hN⟩ ⟨hin, B.returns⟩ hX (hP 0 _ rfl).lt
  rw [lg_entry_eq]
  exact g s.heap [] _ hP (hD.self (sz := s.heap.size)) va_S.rf hl
