/-! rows for methods that make cells -/
section GR
variable {K : Kt} {D : va_G} {cy : Nat → ClassId} {cc : ByteArray} {own : String} {A : Nat → Prop} {fr lo mc ms ce sl : Nat} {ws : va_W} {L : List (Nat × Value)} {rest : List Value}
theorem g_iconst (C : Nx K D cy cc own A fr lo mc ms) (pc : Nat) {n : Int} {v : Int32} (d : decode cc pc = .ok (.iconst n, 1)) (hv : Int32.ofInt n = v) (k : Gn K D A ws ce sl (pc + 1) L (.int v :: rest)) : Gn K D A ws ce sl pc L (rest) := by
  obtain ⟨p, l, e, R, s, m, args, below, meth, c, nL, Q, ce0, sl0⟩ := K
  obtain ⟨hx, hb, hml, hown, hts, hK, hlk, hfr, hlo, hmc, hms, hA, hN⟩ := C
  intro H locs ls hP hD hS hl
  exact lv_iconst hx hb d hv (k H locs ls hP hD hS hl)
theorem g_bipush (C : Nx K D cy cc own A fr lo mc ms) (pc : Nat) {n : Int} {v : Int32} (d : decode cc pc = .ok (.bipush n, 2)) (hv : (Int8.ofInt n).toInt32 = v) (k : Gn K D A ws ce sl (pc + 2) L (.int v :: rest)) : Gn K D A ws ce sl pc L (rest) := by
  obtain ⟨p, l, e, R, s, m, args, below, meth, c, nL, Q, ce0, sl0⟩ := K
  obtain ⟨hx, hb, hml, hown, hts, hK, hlk, hfr, hlo, hmc, hms, hA, hN⟩ := C
  intro H locs ls hP hD hS hl
  exact lv_bipush hx hb d hv (k H locs ls hP hD hS hl)
theorem g_sipush (C : Nx K D cy cc own A fr lo mc ms) (pc : Nat) {n : Int} {v : Int32} (d : decode cc pc = .ok (.sipush n, 3)) (hv : (Int16.ofInt n).toInt32 = v) (k : Gn K D A ws ce sl (pc + 3) L (.int v :: rest)) : Gn K D A ws ce sl pc L (rest) := by
  obtain ⟨p, l, e, R, s, m, args, below, meth, c, nL, Q, ce0, sl0⟩ := K
  obtain ⟨hx, hb, hml, hown, hts, hK, hlk, hfr, hlo, hmc, hms, hA, hN⟩ := C
  intro H locs ls hP hD hS hl
  exact lv_sipush hx hb d hv (k H locs ls hP hD hS hl)
theorem g_ldc (C : Nx K D cy cc own A fr lo mc ms) (pc : Nat) {index : Nat} {v : Int32} (d : decode cc pc = .ok (.ldc index, 2)) (hw : Cond.constant own index v ∈ gw_tbl) (k : Gn K D A ws ce sl (pc + 2) L (.int v :: rest)) : Gn K D A ws ce sl pc L (rest) := by
  obtain ⟨p, l, e, R, s, m, args, below, meth, c, nL, Q, ce0, sl0⟩ := K
  obtain ⟨hx, hb, hml, hown, hts, hK, hlk, hfr, hlo, hmc, hms, hA, hN⟩ := C
  intro H locs ls hP hD hS hl
  exact lv_ldc hx hb hown (hts _ hw) d (k H locs ls hP hD hS hl)
theorem g_iload_n (C : Nx K D cy cc own A fr lo mc ms) (pc : Nat) {q : Fin 4} {x : Int32} (j : Nat) (d : decode cc pc = .ok (.iload_n q, 1)) (hj : L[j]? = some ((q : Nat), .int x)) (k : Gn K D A ws ce sl (pc + 1) L (.int x :: rest)) : Gn K D A ws ce sl pc L (rest) := by
  obtain ⟨p, l, e, R, s, m, args, below, meth, c, nL, Q, ce0, sl0⟩ := K
  obtain ⟨hx, hb, hml, hown, hts, hK, hlk, hfr, hlo, hmc, hms, hA, hN⟩ := C
  intro H locs ls hP hD hS hl
  exact lv_iload_n hx hb d rfl (lv_at hl j hj) (k H locs ls hP hD hS hl)
theorem g_iload (C : Nx K D cy cc own A fr lo mc ms) (pc : Nat) {q : Nat} {x : Int32} (j : Nat) (d : decode cc pc = .ok (.iload q, 2)) (hj : L[j]? = some (q, .int x)) (k : Gn K D A ws ce sl (pc + 2) L (.int x :: rest)) : Gn K D A ws ce sl pc L (rest) := by
  obtain ⟨p, l, e, R, s, m, args, below, meth, c, nL, Q, ce0, sl0⟩ := K
  obtain ⟨hx, hb, hml, hown, hts, hK, hlk, hfr, hlo, hmc, hms, hA, hN⟩ := C
  intro H locs ls hP hD hS hl
  exact lv_iload hx hb d (lv_at hl j hj) (k H locs ls hP hD hS hl)
theorem g_aload_n (C : Nx K D cy cc own A fr lo mc ms) (pc : Nat) {q : Fin 4} {x : Nat} (j : Nat) (d : decode cc pc = .ok (.aload_n q, 1)) (hj : L[j]? = some ((q : Nat), .ref x)) (k : Gn K D A ws ce sl (pc + 1) L (.ref x :: rest)) : Gn K D A ws ce sl pc L (rest) := by
  obtain ⟨p, l, e, R, s, m, args, below, meth, c, nL, Q, ce0, sl0⟩ := K
  obtain ⟨hx, hb, hml, hown, hts, hK, hlk, hfr, hlo, hmc, hms, hA, hN⟩ := C
  intro H locs ls hP hD hS hl
  exact lv_aload_n hx hb d rfl (lv_at hl j hj) (k H locs ls hP hD hS hl)
theorem g_aload (C : Nx K D cy cc own A fr lo mc ms) (pc : Nat) {q : Nat} {x : Nat} (j : Nat) (d : decode cc pc = .ok (.aload q, 2)) (hj : L[j]? = some (q, .ref x)) (k : Gn K D A ws ce sl (pc + 2) L (.ref x :: rest)) : Gn K D A ws ce sl pc L (rest) := by
  obtain ⟨p, l, e, R, s, m, args, below, meth, c, nL, Q, ce0, sl0⟩ := K
  obtain ⟨hx, hb, hml, hown, hts, hK, hlk, hfr, hlo, hmc, hms, hA, hN⟩ := C
  intro H locs ls hP hD hS hl
  exact lv_aload hx hb d (lv_at hl j hj) (k H locs ls hP hD hS hl)
theorem g_istore_n (C : Nx K D cy cc own A fr lo mc ms) (pc : Nat) {q4 : Fin 4} {i : Nat} {x : Int32} {L' : List (Nat × Value)} (d : decode cc pc = .ok (.istore_n q4, 1)) (hi : (q4 : Nat) = i) (hn : ∀ K2 : Kt, K = K2 → i < K2.2.2.2.2.2.2.2.2.2.2.1) (hl : (i, Value.int x) :: L.filter (fun q => !(q.1 == i) && !(q.1 + 1 == i && q.2.category == 2)) = L') (k : Gn K D A ws ce sl (pc + 1) L' rest) : Gn K D A ws ce sl pc L (Value.int x :: rest) := by
  obtain ⟨p, l, e, R, s, m, args, below, meth, c, nL, Q, ce0, sl0⟩ := K
  obtain ⟨hx, hb, hml, hown, hts, hK, hlk, hfr, hlo, hmc, hms, hA, hN⟩ := C
  intro H locs ls hP hD hS hl2
  exact lv_istore_n hx hb d hi hl2 (hn _ rfl) hl (fun ls2 h2 => k H locs ls2 hP hD hS h2)
theorem g_istore (C : Nx K D cy cc own A fr lo mc ms) (pc : Nat) {i : Nat} {x : Int32} {L' : List (Nat × Value)} (d : decode cc pc = .ok (.istore i, 2)) (hn : ∀ K2 : Kt, K = K2 → i < K2.2.2.2.2.2.2.2.2.2.2.1) (hl : (i, Value.int x) :: L.filter (fun q => !(q.1 == i) && !(q.1 + 1 == i && q.2.category == 2)) = L') (k : Gn K D A ws ce sl (pc + 2) L' rest) : Gn K D A ws ce sl pc L (Value.int x :: rest) := by
  obtain ⟨p, l, e, R, s, m, args, below, meth, c, nL, Q, ce0, sl0⟩ := K
  obtain ⟨hx, hb, hml, hown, hts, hK, hlk, hfr, hlo, hmc, hms, hA, hN⟩ := C
  intro H locs ls hP hD hS hl2
  exact lv_istore hx hb d hl2 (hn _ rfl) hl (fun ls2 h2 => k H locs ls2 hP hD hS h2)
theorem g_astore_n (C : Nx K D cy cc own A fr lo mc ms) (pc : Nat) {q4 : Fin 4} {i : Nat} {x : Nat} {L' : List (Nat × Value)} (d : decode cc pc = .ok (.astore_n q4, 1)) (hi : (q4 : Nat) = i) (hn : ∀ K2 : Kt, K = K2 → i < K2.2.2.2.2.2.2.2.2.2.2.1) (hl : (i, Value.ref x) :: L.filter (fun q => !(q.1 == i) && !(q.1 + 1 == i && q.2.category == 2)) = L') (k : Gn K D A ws ce sl (pc + 1) L' rest) : Gn K D A ws ce sl pc L (Value.ref x :: rest) := by
  obtain ⟨p, l, e, R, s, m, args, below, meth, c, nL, Q, ce0, sl0⟩ := K
  obtain ⟨hx, hb, hml, hown, hts, hK, hlk, hfr, hlo, hmc, hms, hA, hN⟩ := C
  intro H locs ls hP hD hS hl2
  exact lv_astore_n hx hb d hi hl2 (hn _ rfl) hl (fun ls2 h2 => k H locs ls2 hP hD hS h2)
theorem g_iinc (C : Nx K D cy cc own A fr lo mc ms) (pc : Nat) {i : Nat} (j : Nat) {n : Int} {x v : Int32} {L' : List (Nat × Value)} (d : decode cc pc = .ok (.iinc i n, 3)) (hj : L[j]? = some (i, .int x)) (hv : x + Int32.ofInt n = v) (hn : ∀ K2 : Kt, K = K2 → i < K2.2.2.2.2.2.2.2.2.2.2.1) (hl : (i, Value.int v) :: L.filter (fun q => !(q.1 == i) && !(q.1 + 1 == i && q.2.category == 2)) = L') (k : Gn K D A ws ce sl (pc + 3) L' rest) : Gn K D A ws ce sl pc L rest := by
  obtain ⟨p, l, e, R, s, m, args, below, meth, c, nL, Q, ce0, sl0⟩ := K
  obtain ⟨hx, hb, hml, hown, hts, hK, hlk, hfr, hlo, hmc, hms, hA, hN⟩ := C
  intro H locs ls hP hD hS hl2
  exact lv_iinc hx hb d hl2 hj hv (hn _ rfl) hl (fun ls2 h2 => k H locs ls2 hP hD hS h2)
theorem g_iadd (C : Nx K D cy cc own A fr lo mc ms) (pc : Nat) {x y : Int32} (d : decode cc pc = .ok (.iadd, 1))  (k : Gn K D A ws ce sl (pc + 1) L (.int (x + y) :: rest)) : Gn K D A ws ce sl pc L (.int y :: .int x :: rest) := by
  obtain ⟨p, l, e, R, s, m, args, below, meth, c, nL, Q, ce0, sl0⟩ := K
  obtain ⟨hx, hb, hml, hown, hts, hK, hlk, hfr, hlo, hmc, hms, hA, hN⟩ := C
  intro H locs ls hP hD hS hl
  exact lv_iadd hx hb d  (k H locs ls hP hD hS hl)
theorem g_isub (C : Nx K D cy cc own A fr lo mc ms) (pc : Nat) {x y : Int32} (d : decode cc pc = .ok (.isub, 1))  (k : Gn K D A ws ce sl (pc + 1) L (.int (x - y) :: rest)) : Gn K D A ws ce sl pc L (.int y :: .int x :: rest) := by
  obtain ⟨p, l, e, R, s, m, args, below, meth, c, nL, Q, ce0, sl0⟩ := K
  obtain ⟨hx, hb, hml, hown, hts, hK, hlk, hfr, hlo, hmc, hms, hA, hN⟩ := C
  intro H locs ls hP hD hS hl
  exact lv_isub hx hb d  (k H locs ls hP hD hS hl)
theorem g_imul (C : Nx K D cy cc own A fr lo mc ms) (pc : Nat) {x y : Int32} (d : decode cc pc = .ok (.imul, 1))  (k : Gn K D A ws ce sl (pc + 1) L (.int (x * y) :: rest)) : Gn K D A ws ce sl pc L (.int y :: .int x :: rest) := by
  obtain ⟨p, l, e, R, s, m, args, below, meth, c, nL, Q, ce0, sl0⟩ := K
  obtain ⟨hx, hb, hml, hown, hts, hK, hlk, hfr, hlo, hmc, hms, hA, hN⟩ := C
  intro H locs ls hP hD hS hl
  exact lv_imul hx hb d  (k H locs ls hP hD hS hl)
theorem g_iand (C : Nx K D cy cc own A fr lo mc ms) (pc : Nat) {x y : Int32} (d : decode cc pc = .ok (.iand, 1))  (k : Gn K D A ws ce sl (pc + 1) L (.int (x &&& y) :: rest)) : Gn K D A ws ce sl pc L (.int y :: .int x :: rest) := by
  obtain ⟨p, l, e, R, s, m, args, below, meth, c, nL, Q, ce0, sl0⟩ := K
  obtain ⟨hx, hb, hml, hown, hts, hK, hlk, hfr, hlo, hmc, hms, hA, hN⟩ := C
  intro H locs ls hP hD hS hl
  exact lv_iand hx hb d  (k H locs ls hP hD hS hl)
theorem g_ior (C : Nx K D cy cc own A fr lo mc ms) (pc : Nat) {x y : Int32} (d : decode cc pc = .ok (.ior, 1))  (k : Gn K D A ws ce sl (pc + 1) L (.int (x ||| y) :: rest)) : Gn K D A ws ce sl pc L (.int y :: .int x :: rest) := by
  obtain ⟨p, l, e, R, s, m, args, below, meth, c, nL, Q, ce0, sl0⟩ := K
  obtain ⟨hx, hb, hml, hown, hts, hK, hlk, hfr, hlo, hmc, hms, hA, hN⟩ := C
  intro H locs ls hP hD hS hl
  exact lv_ior hx hb d  (k H locs ls hP hD hS hl)
theorem g_ishl (C : Nx K D cy cc own A fr lo mc ms) (pc : Nat) {x y : Int32} (d : decode cc pc = .ok (.ishl, 1))  (k : Gn K D A ws ce sl (pc + 1) L (.int (x <<< (y &&& 31)) :: rest)) : Gn K D A ws ce sl pc L (.int y :: .int x :: rest) := by
  obtain ⟨p, l, e, R, s, m, args, below, meth, c, nL, Q, ce0, sl0⟩ := K
  obtain ⟨hx, hb, hml, hown, hts, hK, hlk, hfr, hlo, hmc, hms, hA, hN⟩ := C
  intro H locs ls hP hD hS hl
  exact lv_ishl hx hb d  (k H locs ls hP hD hS hl)
theorem g_ishr (C : Nx K D cy cc own A fr lo mc ms) (pc : Nat) {x y : Int32} (d : decode cc pc = .ok (.ishr, 1))  (k : Gn K D A ws ce sl (pc + 1) L (.int (x >>> (y &&& 31)) :: rest)) : Gn K D A ws ce sl pc L (.int y :: .int x :: rest) := by
  obtain ⟨p, l, e, R, s, m, args, below, meth, c, nL, Q, ce0, sl0⟩ := K
  obtain ⟨hx, hb, hml, hown, hts, hK, hlk, hfr, hlo, hmc, hms, hA, hN⟩ := C
  intro H locs ls hP hD hS hl
  exact lv_ishr hx hb d  (k H locs ls hP hD hS hl)
theorem g_ineg (C : Nx K D cy cc own A fr lo mc ms) (pc : Nat) {x : Int32} (d : decode cc pc = .ok (.ineg, 1))  (k : Gn K D A ws ce sl (pc + 1) L (.int (-x) :: rest)) : Gn K D A ws ce sl pc L (.int x :: rest) := by
  obtain ⟨p, l, e, R, s, m, args, below, meth, c, nL, Q, ce0, sl0⟩ := K
  obtain ⟨hx, hb, hml, hown, hts, hK, hlk, hfr, hlo, hmc, hms, hA, hN⟩ := C
  intro H locs ls hP hD hS hl
  exact lv_ineg hx hb d  (k H locs ls hP hD hS hl)
theorem g_dup (C : Nx K D cy cc own A fr lo mc ms) (pc : Nat) {v : Value} (d : decode cc pc = .ok (.dup, 1)) (hv : v.category = 1) (k : Gn K D A ws ce sl (pc + 1) L (v :: v :: rest)) : Gn K D A ws ce sl pc L (v :: rest) := by
  obtain ⟨p, l, e, R, s, m, args, below, meth, c, nL, Q, ce0, sl0⟩ := K
  obtain ⟨hx, hb, hml, hown, hts, hK, hlk, hfr, hlo, hmc, hms, hA, hN⟩ := C
  intro H locs ls hP hD hS hl
  exact lv_dup hx hb d hv (k H locs ls hP hD hS hl)
theorem g_pop (C : Nx K D cy cc own A fr lo mc ms) (pc : Nat) {v : Value} (d : decode cc pc = .ok (.pop, 1)) (hv : v.category = 1) (k : Gn K D A ws ce sl (pc + 1) L (rest)) : Gn K D A ws ce sl pc L (v :: rest) := by
  obtain ⟨p, l, e, R, s, m, args, below, meth, c, nL, Q, ce0, sl0⟩ := K
  obtain ⟨hx, hb, hml, hown, hts, hK, hlk, hfr, hlo, hmc, hms, hA, hN⟩ := C
  intro H locs ls hP hD hS hl
  exact lv_pop hx hb d hv (k H locs ls hP hD hS hl)
theorem g_irem (C : Nx K D cy cc own A fr lo mc ms) (pc : Nat) {x y : Int32} (d : decode cc pc = .ok (.irem, 1)) (hne : ¬ y = 0) (k : Gn K D A ws ce sl (pc + 1) L (.int (x - x / y * y) :: rest)) : Gn K D A ws ce sl pc L (.int y :: .int x :: rest) := by
  obtain ⟨p, l, e, R, s, m, args, below, meth, c, nL, Q, ce0, sl0⟩ := K
  obtain ⟨hx, hb, hml, hown, hts, hK, hlk, hfr, hlo, hmc, hms, hA, hN⟩ := C
  intro H locs ls hP hD hS hl
  exact lv_irem hx hb d hne (k H locs ls hP hD hS hl)
theorem g_goto (C : Nx K D cy cc own A fr lo mc ms) (pc tgt : Nat) {off : Int} (d : decode cc pc = .ok (.goto off, 3)) (ht : (pc : Int) + off = (tgt : Int)) (k : Gn K D A ws ce sl tgt L rest) : Gn K D A ws ce sl pc L rest := by
  obtain ⟨p, l, e, R, s, m, args, below, meth, c, nL, Q, ce0, sl0⟩ := K
  obtain ⟨hx, hb, hml, hown, hts, hK, hlk, hfr, hlo, hmc, hms, hA, hN⟩ := C
  intro H locs ls hP hD hS hl
  exact lv_goto hx hb d ht (k H locs ls hP hD hS hl)
theorem g_astore (C : Nx K D cy cc own A fr lo mc ms) (pc : Nat) {i : Nat} {x : Nat} {L' : List (Nat × Value)} (d : decode cc pc = .ok (.astore i, 2)) (hn : ∀ K2 : Kt, K = K2 → i < K2.2.2.2.2.2.2.2.2.2.2.1) (hl : (i, Value.ref x) :: L.filter (fun q => !(q.1 == i) && !(q.1 + 1 == i && q.2.category == 2)) = L') (k : Gn K D A ws ce sl (pc + 2) L' rest) : Gn K D A ws ce sl pc L (Value.ref x :: rest) := by
  obtain ⟨p, l, e, R, s, m, args, below, meth, c, nL, Q, ce0, sl0⟩ := K
  obtain ⟨hx, hb, hml, hown, hts, hK, hlk, hfr, hlo, hmc, hms, hA, hN⟩ := C
  intro H locs ls hP hD hS hl2
  exact lv_astore hx hb d hl2 (hn _ rfl) hl (fun ls2 h2 => k H locs ls2 hP hD hS h2)
theorem g_icmp_eq (C : Nx K D cy cc own A fr lo mc ms) (pc tgt : Nat) {x y : Int32} {off : Int} (d : decode cc pc = .ok (.if_icmp .eq off, 3)) (ht : (pc : Int) + off = (tgt : Int)) (kt : x = y → Gn K D A ws ce sl tgt L rest) (kf : ¬ (x = y) → Gn K D A ws ce sl (pc + 3) L rest) : Gn K D A ws ce sl pc L (.int y :: .int x :: rest) := by
  obtain ⟨p, l, e, R, s, m, args, below, meth, c, nL, Q, ce0, sl0⟩ := K
  obtain ⟨hx, hb, hml, hown, hts, hK, hlk, hfr, hlo, hmc, hms, hA, hN⟩ := C
  intro H locs ls hP hD hS hl
  exact lv_icmp_eq hx hb d ht (fun h => kt h H locs ls hP hD hS hl) (fun h => kf h H locs ls hP hD hS hl)
theorem g_if_eq (C : Nx K D cy cc own A fr lo mc ms) (pc tgt : Nat) {x : Int32} {off : Int} (d : decode cc pc = .ok (.ifCond .eq off, 3)) (ht : (pc : Int) + off = (tgt : Int)) (kt : x = 0 → Gn K D A ws ce sl tgt L rest) (kf : ¬ (x = 0) → Gn K D A ws ce sl (pc + 3) L rest) : Gn K D A ws ce sl pc L (.int x :: rest) := by
  obtain ⟨p, l, e, R, s, m, args, below, meth, c, nL, Q, ce0, sl0⟩ := K
  obtain ⟨hx, hb, hml, hown, hts, hK, hlk, hfr, hlo, hmc, hms, hA, hN⟩ := C
  intro H locs ls hP hD hS hl
  exact lv_if_eq hx hb d ht (fun h => kt h H locs ls hP hD hS hl) (fun h => kf h H locs ls hP hD hS hl)
theorem g_icmp_ne (C : Nx K D cy cc own A fr lo mc ms) (pc tgt : Nat) {x y : Int32} {off : Int} (d : decode cc pc = .ok (.if_icmp .ne off, 3)) (ht : (pc : Int) + off = (tgt : Int)) (kt : x ≠ y → Gn K D A ws ce sl tgt L rest) (kf : ¬ (x ≠ y) → Gn K D A ws ce sl (pc + 3) L rest) : Gn K D A ws ce sl pc L (.int y :: .int x :: rest) := by
  obtain ⟨p, l, e, R, s, m, args, below, meth, c, nL, Q, ce0, sl0⟩ := K
  obtain ⟨hx, hb, hml, hown, hts, hK, hlk, hfr, hlo, hmc, hms, hA, hN⟩ := C
  intro H locs ls hP hD hS hl
  exact lv_icmp_ne hx hb d ht (fun h => kt h H locs ls hP hD hS hl) (fun h => kf (fun z => z h) H locs ls hP hD hS hl)
theorem g_if_ne (C : Nx K D cy cc own A fr lo mc ms) (pc tgt : Nat) {x : Int32} {off : Int} (d : decode cc pc = .ok (.ifCond .ne off, 3)) (ht : (pc : Int) + off = (tgt : Int)) (kt : x ≠ 0 → Gn K D A ws ce sl tgt L rest) (kf : ¬ (x ≠ 0) → Gn K D A ws ce sl (pc + 3) L rest) : Gn K D A ws ce sl pc L (.int x :: rest) := by
  obtain ⟨p, l, e, R, s, m, args, below, meth, c, nL, Q, ce0, sl0⟩ := K
  obtain ⟨hx, hb, hml, hown, hts, hK, hlk, hfr, hlo, hmc, hms, hA, hN⟩ := C
  intro H locs ls hP hD hS hl
  exact lv_if_ne hx hb d ht (fun h => kt h H locs ls hP hD hS hl) (fun h => kf (fun z => z h) H locs ls hP hD hS hl)
theorem g_icmp_lt (C : Nx K D cy cc own A fr lo mc ms) (pc tgt : Nat) {x y : Int32} {off : Int} (d : decode cc pc = .ok (.if_icmp .lt off, 3)) (ht : (pc : Int) + off = (tgt : Int)) (kt : x < y → Gn K D A ws ce sl tgt L rest) (kf : ¬ (x < y) → Gn K D A ws ce sl (pc + 3) L rest) : Gn K D A ws ce sl pc L (.int y :: .int x :: rest) := by
  obtain ⟨p, l, e, R, s, m, args, below, meth, c, nL, Q, ce0, sl0⟩ := K
  obtain ⟨hx, hb, hml, hown, hts, hK, hlk, hfr, hlo, hmc, hms, hA, hN⟩ := C
  intro H locs ls hP hD hS hl
  exact lv_icmp_lt hx hb d ht (fun h => kt h H locs ls hP hD hS hl) (fun h => kf h H locs ls hP hD hS hl)
theorem g_if_lt (C : Nx K D cy cc own A fr lo mc ms) (pc tgt : Nat) {x : Int32} {off : Int} (d : decode cc pc = .ok (.ifCond .lt off, 3)) (ht : (pc : Int) + off = (tgt : Int)) (kt : x < 0 → Gn K D A ws ce sl tgt L rest) (kf : ¬ (x < 0) → Gn K D A ws ce sl (pc + 3) L rest) : Gn K D A ws ce sl pc L (.int x :: rest) := by
  obtain ⟨p, l, e, R, s, m, args, below, meth, c, nL, Q, ce0, sl0⟩ := K
  obtain ⟨hx, hb, hml, hown, hts, hK, hlk, hfr, hlo, hmc, hms, hA, hN⟩ := C
  intro H locs ls hP hD hS hl
  exact lv_if_lt hx hb d ht (fun h => kt h H locs ls hP hD hS hl) (fun h => kf h H locs ls hP hD hS hl)
theorem g_icmp_ge (C : Nx K D cy cc own A fr lo mc ms) (pc tgt : Nat) {x y : Int32} {off : Int} (d : decode cc pc = .ok (.if_icmp .ge off, 3)) (ht : (pc : Int) + off = (tgt : Int)) (kt : y ≤ x → Gn K D A ws ce sl tgt L rest) (kf : ¬ (y ≤ x) → Gn K D A ws ce sl (pc + 3) L rest) : Gn K D A ws ce sl pc L (.int y :: .int x :: rest) := by
  obtain ⟨p, l, e, R, s, m, args, below, meth, c, nL, Q, ce0, sl0⟩ := K
  obtain ⟨hx, hb, hml, hown, hts, hK, hlk, hfr, hlo, hmc, hms, hA, hN⟩ := C
  intro H locs ls hP hD hS hl
  exact lv_icmp_ge hx hb d ht (fun h => kt h H locs ls hP hD hS hl) (fun h => kf h H locs ls hP hD hS hl)
theorem g_if_ge (C : Nx K D cy cc own A fr lo mc ms) (pc tgt : Nat) {x : Int32} {off : Int} (d : decode cc pc = .ok (.ifCond .ge off, 3)) (ht : (pc : Int) + off = (tgt : Int)) (kt : 0 ≤ x → Gn K D A ws ce sl tgt L rest) (kf : ¬ (0 ≤ x) → Gn K D A ws ce sl (pc + 3) L rest) : Gn K D A ws ce sl pc L (.int x :: rest) := by
  obtain ⟨p, l, e, R, s, m, args, below, meth, c, nL, Q, ce0, sl0⟩ := K
  obtain ⟨hx, hb, hml, hown, hts, hK, hlk, hfr, hlo, hmc, hms, hA, hN⟩ := C
  intro H locs ls hP hD hS hl
  exact lv_if_ge hx hb d ht (fun h => kt h H locs ls hP hD hS hl) (fun h => kf h H locs ls hP hD hS hl)
theorem g_icmp_gt (C : Nx K D cy cc own A fr lo mc ms) (pc tgt : Nat) {x y : Int32} {off : Int} (d : decode cc pc = .ok (.if_icmp .gt off, 3)) (ht : (pc : Int) + off = (tgt : Int)) (kt : y < x → Gn K D A ws ce sl tgt L rest) (kf : ¬ (y < x) → Gn K D A ws ce sl (pc + 3) L rest) : Gn K D A ws ce sl pc L (.int y :: .int x :: rest) := by
  obtain ⟨p, l, e, R, s, m, args, below, meth, c, nL, Q, ce0, sl0⟩ := K
  obtain ⟨hx, hb, hml, hown, hts, hK, hlk, hfr, hlo, hmc, hms, hA, hN⟩ := C
  intro H locs ls hP hD hS hl
  exact lv_icmp_gt hx hb d ht (fun h => kt h H locs ls hP hD hS hl) (fun h => kf h H locs ls hP hD hS hl)
theorem g_if_gt (C : Nx K D cy cc own A fr lo mc ms) (pc tgt : Nat) {x : Int32} {off : Int} (d : decode cc pc = .ok (.ifCond .gt off, 3)) (ht : (pc : Int) + off = (tgt : Int)) (kt : 0 < x → Gn K D A ws ce sl tgt L rest) (kf : ¬ (0 < x) → Gn K D A ws ce sl (pc + 3) L rest) : Gn K D A ws ce sl pc L (.int x :: rest) := by
  obtain ⟨p, l, e, R, s, m, args, below, meth, c, nL, Q, ce0, sl0⟩ := K
  obtain ⟨hx, hb, hml, hown, hts, hK, hlk, hfr, hlo, hmc, hms, hA, hN⟩ := C
  intro H locs ls hP hD hS hl
  exact lv_if_gt hx hb d ht (fun h => kt h H locs ls hP hD hS hl) (fun h => kf h H locs ls hP hD hS hl)
theorem g_icmp_le (C : Nx K D cy cc own A fr lo mc ms) (pc tgt : Nat) {x y : Int32} {off : Int} (d : decode cc pc = .ok (.if_icmp .le off, 3)) (ht : (pc : Int) + off = (tgt : Int)) (kt : x ≤ y → Gn K D A ws ce sl tgt L rest) (kf : ¬ (x ≤ y) → Gn K D A ws ce sl (pc + 3) L rest) : Gn K D A ws ce sl pc L (.int y :: .int x :: rest) := by
  obtain ⟨p, l, e, R, s, m, args, below, meth, c, nL, Q, ce0, sl0⟩ := K
  obtain ⟨hx, hb, hml, hown, hts, hK, hlk, hfr, hlo, hmc, hms, hA, hN⟩ := C
  intro H locs ls hP hD hS hl
  exact lv_icmp_le hx hb d ht (fun h => kt h H locs ls hP hD hS hl) (fun h => kf h H locs ls hP hD hS hl)
theorem g_if_le (C : Nx K D cy cc own A fr lo mc ms) (pc tgt : Nat) {x : Int32} {off : Int} (d : decode cc pc = .ok (.ifCond .le off, 3)) (ht : (pc : Int) + off = (tgt : Int)) (kt : x ≤ 0 → Gn K D A ws ce sl tgt L rest) (kf : ¬ (x ≤ 0) → Gn K D A ws ce sl (pc + 3) L rest) : Gn K D A ws ce sl pc L (.int x :: rest) := by
  obtain ⟨p, l, e, R, s, m, args, below, meth, c, nL, Q, ce0, sl0⟩ := K
  obtain ⟨hx, hb, hml, hown, hts, hK, hlk, hfr, hlo, hmc, hms, hA, hN⟩ := C
  intro H locs ls hP hD hS hl
  exact lv_if_le hx hb d ht (fun h => kt h H locs ls hP hD hS hl) (fun h => kf h H locs ls hP hD hS hl)
end GR
/-- a list of cells that lie outside of what may change, as it was at the method's start -/
def Wc (K : Kt) (D : va_G) (A : Nat → Prop) (wl : va_W) : Prop :=
  match K with
  | (_, _, _, _, s, _, _, _, _, _, _, _, _, _) => va_P D vwCl wl s.heap ∧ ∀ (j : Nat) (x : Nat × va_E), wl[j]? = some x → ¬ A x.1
theorem va_at_lt {D : va_G} {cl : List vw_C} {q : Nat × va_E} {H : Heap} (h : va_at D cl q H) : q.1 < H.size := h.lt
theorem va_P.still {D : va_G} {A : Nat → Prop} {wl : va_W} {H0 H : Heap} {locs : List Loc} (hP : va_P D vwCl wl H0) (hA : ∀ (j : Nat) (x : Nat × va_E), wl[j]? = some x → ¬ A x.1) (hS : va_S A H0 H locs) : va_P D vwCl wl H :=
  hP.kept (fun j x hx => hS.2.1 x.1 (hP j x hx).lt (hA j x hx))
/-- what a list of a method's own and one of the constant ones hold -/
def Wo (K : Kt) (D : va_G) (A : Nat → Prop) (ws wl : va_W) : Prop :=
  match K with
  | (_, _, _, _, s, _, _, _, _, _, _, _, _, _) => ∀ (H : Heap) (locs : List Loc), va_P D vwCl ws H → va_S A s.heap H locs → va_P D vwCl wl H
theorem Wo.const {K : Kt} {D : va_G} {A : Nat → Prop} {ws wl : va_W} (h : Wc K D A wl) : Wo K D A ws wl := by
  obtain ⟨p, l, e, R, s, m, args, below, meth, c, nL, Q, ce0, sl0⟩ := K
  exact fun H locs _ hS => h.1.still h.2 hS
theorem Wo.sub {K : Kt} {D : va_G} {A : Nat → Prop} {ws wl : va_W} (ps : List Nat) (h : ps.filterMap (fun i => ws[i]?) = wl) : Wo K D A ws wl := by
  obtain ⟨p, l, e, R, s, m, args, below, meth, c, nL, Q, ce0, sl0⟩ := K
  exact fun H locs hP _ => hP.sub ps h
theorem Wo.app {K : Kt} {D : va_G} {A : Nat → Prop} {ws w1 w2 : va_W} (h1 : Wo K D A ws w1) (h2 : Wo K D A ws w2) : Wo K D A ws (w1 ++ w2) := by
  obtain ⟨p, l, e, R, s, m, args, below, meth, c, nL, Q, ce0, sl0⟩ := K
  exact fun H locs hP hS => (h1 H locs hP hS).app (h2 H locs hP hS)
def Ks (K : Kt) : State := K.2.2.2.2.1
def Kn (K : Kt) : Nat := K.2.2.2.2.2.2.2.2.2.2.1
/-- arrays of ints can be copied -/
def CSt (U : State) : Prop := ∃ c t, U.vm.findClass "[I" = some c ∧ U.vm.findClass "java/lang/Cloneable" = some t ∧ U.vm.assignable c t = true
theorem CSt.moved {u U : State} (hvm : u.vm.Alike U.vm) (h : CSt u) : CSt U := by
  obtain ⟨c, t, h1, h2, h3⟩ := h
  exact ⟨c, t, by rw [hvm.findClass]; exact h1, by rw [hvm.findClass]; exact h2, by rw [hvm.assignable]; exact h3⟩
/-- a method that only asks, and makes new cells: what it answers and what it makes -/
def Cq (l : Launch) (D : va_G) (cy : Nat → ClassId) (y : MethodName) (b : ByteArray) (n : Nat) (ret : Option FieldType) (fr lo mc ms : Nat) (As : List Value) (wl : va_W) (Rp : Option Value → va_W → Prop) : Prop :=
  ∀ sz : Nat, Met l y (.code y b n ret :: gw_tbl) { frames := fr, cells := mc, slots := ms, locals := lo } (va_Pc As (fun U => U.heap.size = sz ∧ va_K D vwCl (T6 cy) U ∧ (NW U ∧ CSt U) ∧ va_P D vwCl wl U.heap)) (fun _ st oc t => (∃ rv, oc = .returned rv ∧ ∃ nl, Rp rv nl ∧ va_P D vwCl nl t.heap ∧ va_D (fun q => sz ≤ q) nl) ∧ va_F (fun q => sz ≤ q) st t) mc ms (fun q => sz ≤ q)
theorem Cq_blind {D : va_G} {cy : Nat → ClassId} {As : List Value} {sz : Nat} {wl : va_W} : FrameBlind (va_Pc As (fun U => U.heap.size = sz ∧ va_K D vwCl (T6 cy) U ∧ (NW U ∧ CSt U) ∧ va_P D vwCl wl U.heap)) := fun a U g mk h => ⟨h.1, h.2.1, va_K.moved (u := U) (U := U.calling g mk a) (Vm.Alike.refl U.vm) h.2.2.1, ⟨h.2.2.2.1.1.calling, CSt.moved (u := U) (U := U.calling g mk a) (Vm.Alike.refl U.vm) h.2.2.2.1.2⟩, h.2.2.2.2⟩
/-- a call, whatever it does -/
theorem g_Wc {p : Program} {l : Launch} {e : Env} {R : Room} {s : State} {m : MethodId} {args : Array Value} {below : List Frame} {meth : Method} {c : Code} {Q : State → Prop} {H : Heap} {locs : List Loc} {pc : Nat} {ls : Array Slot} {st0 rest : List Value} {A B : Nat → Prop} {ce sl mc ms : Nat} {Po : Option Value → Heap → Prop}
    (hr : va_Run p l e R s m args below meth c H locs ce sl mc ms (F0 m pc ls st0) rest (fun st oc t => (∃ rv, oc = .returned rv ∧ Po rv t.heap) ∧ va_F B st t) B) (hS : va_S A s.heap H locs) (hBA : ∀ q, B q → A q)
    (kk : ∀ (rv : Option Value) (H1 : Heap) (locs1 : List Loc), Po rv H1 → va_S A s.heap H1 locs1 → H.size ≤ H1.size → (∀ q, q < H.size → ¬ B q → H1[q]? = H[q]?) → W p l e R s m args below meth c H1 locs1 (ce + mc) (sl + ms) Q (F0 m (pc + 3) ls (rv.toList ++ rest))) : W p l e R s m args below meth c H locs ce sl Q (F0 m pc ls st0) := by
  intro T hT X
  obtain ⟨v, st₀, t, T', L, h0, X', hL, e1, e2, ⟨⟨rv, hv, hu⟩, hz, hk⟩, st⟩ := hr T hT X
  cases hv
  rw [h0] at hz hk
  obtain ⟨t2, a1, b1⟩ := kk _ T'.heap (locs ++ L) (by rw [e1]; exact hu)
    ⟨Nat.le_trans hS.1 (by rw [e1]; exact hz), fun q h1 h2 => by rw [e1, hk q (Nat.lt_of_lt_of_le h1 hS.1) (fun z => h2 (hBA q z))]; exact hS.2.1 q h1 h2, fun q hq => by
      rcases List.mem_append.mp hq with h | h
      · exact hS.2.2 q h
      · exact hBA _ (hL q h)⟩ (by rw [e1]; exact hz) (fun q h1 h2 => by rw [e1]; exact hk q h1 h2) T' rfl X'
  exact ⟨t2, st t2 a1, b1⟩
theorem va_D.joinN {A : Nat → Prop} {D : va_G} {ws nl : va_W} {H : Heap} (hP : va_P D vwCl ws H) (hD : va_D A ws) (hN : va_D (fun q => H.size ≤ q) nl) (hA : ∀ q, H.size ≤ q → A q) : va_D A (ws ++ nl) :=
  hD.app (hN.weaken (fun _ q _ h => hA _ h)) (fun i j p q hp hq e => by
    have h1 := (hP i p hp).lt
    have h2 := hN.2 j q hq
    omega)
section GR2
variable {K : Kt} {D : va_G} {cy : Nat → ClassId} {cc : ByteArray} {own : String} {A : Nat → Prop} {fr lo mc ms ce sl : Nat} {ws : va_W} {L : List (Nat × Value)} {rest : List Value}
theorem g_callQV (C : Nx K D cy cc own A fr lo mc ms) (hcs : CSt (Ks K)) (pc : Nat) {idx : Nat} {y : MethodName} {b : ByteArray} {n : Nat} {ret : Option FieldType} {f2 l2 mc2 ms2 a : Nat} {fs : List Value} {wl : va_W} {Rp : Option Value → va_W → Prop} {st : List Value} (As rest : List Value) (hst : st = As.reverse ++ .ref a :: rest) (hlink : Cond.methodLink own idx y ∈ gw_tbl) (hm : Mv y b n ret As.length) (hcl : y.cls = RN9) (hfr2 : f2 + 1 ≤ fr) (hlo2 : 8 + (n + 11) + l2 ≤ lo) (hrest : (rest.map fun v => v.category).sum ≤ 8) (hce : ce + mc2 ≤ mc) (hsl : sl + ms2 ≤ ms) (d : decode cc pc = .ok (.invokevirtual idx, 3)) (hM : Cq (Kl K) D cy y b n ret f2 l2 mc2 ms2 (.ref a :: As) wl Rp) (hw : Wo K D A ws wl) (hrc : wl[0]? = some (a, .inr (9, fs))) (k : ∀ rv nl, Rp rv nl → Gn K D A (ws ++ nl) (ce + mc2) (sl + ms2) (pc + 3) L (rv.toList ++ rest)) : Gn K D A ws ce sl pc L st := by
  subst hst
  obtain ⟨p, l, e, R, s, m, args, below, meth, c, nL, Q, ce0, sl0⟩ := K
  obtain ⟨hx, hb, hml, hown, hts, hK, hlk, hfr, hlo, hmc, hms, hA, hN⟩ := C
  intro H locs ls hP hD hS hl
  have hPw := hw H locs hP hS
  have cw : CallW R s args own y.cls idx y b n ret (.code y b n ret :: gw_tbl) { frames := f2, cells := mc2, slots := ms2, locals := l2 } mc2 ms2 As.length := ⟨n_callB hm.1 hts hlink (Nat.le_trans hfr2 hfr) (Nat.le_trans hlo2 hlo), hts _ hm.2.1, hts _ hm.2.2⟩
  refine g_Wc (A := A) (Po := fun rv H1 => ∃ nl, Rp rv nl ∧ va_P D vwCl nl H1 ∧ va_D (fun q => H.size ≤ q) nl) (va_runV (As := As) (rest := rest) ⟨hx, hb, hml, hown, hts⟩ (hM H.size) cw ⟨Cq_blind, by rw [hcl]; exact va_recv hK hPw (ci := 9) (q := (RN9, TN9, 24)) rfl hrc, fun U hU hW => ⟨rfl, by rw [hU], va_K.moved hW.alike hK, ⟨hN.warm hW, CSt.moved hW.alike (show CSt s from hcs)⟩, by rw [hU]; exact hPw⟩⟩ rfl rfl hl.1 rfl (lv_room hrest) d ⟨Nat.le_trans hce hmc, Nat.le_trans hsl hms⟩) hS (fun q hq => hA q (Nat.le_trans hS.1 hq)) (fun rv H1 locs1 hPo hS1 hz hk => ?_)
  obtain ⟨nl, h1, h2, h3⟩ := hPo
  exact k rv nl h1 H1 locs1 ls ((hP.kept (fun j x hx => hk x.1 (hP j x hx).lt (fun z => absurd (hP j x hx).lt (Nat.not_lt.mpr z)))).app h2) (va_D.joinN hP hD h3 (fun q hq => hA q (Nat.le_trans hS.1 hq))) hS1 hl
theorem g_sub {pc : Nat} {L' : List (Nat × Value)} {st : List Value} (ks : List Nat) (h : lv_pick L ks = L') (k : Gn K D A ws ce sl pc L' st) : Gn K D A ws ce sl pc L st := by
  obtain ⟨p, l, e, R, s, m, args, below, meth, c, nL, Q, ce0, sl0⟩ := K
  intro H locs ls hP hD hS hl
  exact k H locs ls hP hD hS (lv_sub hl ks h)
/-- cells that are wanted no more are forgotten -/
theorem g_drop {w2 : va_W} {pc : Nat} {st : List Value} (k : Gn K D A ws ce sl pc L st) : Gn K D A (ws ++ w2) ce sl pc L st := by
  obtain ⟨p, l, e, R, s, m, args, below, meth, c, nL, Q, ce0, sl0⟩ := K
  intro H locs ls hP hD hS hl
  refine k H locs ls (fun j x hx => hP j x ?_) ⟨fun i j a b h1 h2 e => hD.1 i j a b ?_ ?_ e, fun j x hx => hD.2 j x ?_⟩ hS hl
  all_goals (rw [List.getElem?_append_left (List.getElem?_eq_some_iff.mp (by assumption)).1]; assumption)
theorem g_more {pc ce2 sl2 : Nat} {st : List Value} (h1 : ce ≤ ce2) (h2 : sl ≤ sl2) (k : Gn K D A ws ce2 sl2 pc L st) : Gn K D A ws ce sl pc L st := by
  obtain ⟨p, l, e, R, s, m, args, below, meth, c, nL, Q, ce0, sl0⟩ := K
  intro H locs ls hP hD hS hl
  exact W.widen h1 h2 (k H locs ls hP hD hS hl)
theorem g_eq {ws2 : va_W} {pc : Nat} {st : List Value} (h : ws = ws2) (k : Gn K D A ws2 ce sl pc L st) : Gn K D A ws ce sl pc L st := by
  rw [h]; exact k
-- fields
theorem g_getN (C : Nx K D cy cc own A fr lo mc ms) (pc : Nat) {idx a : Nat} {fs : List Value} {v : Value} (i : Nat) (hc : ws[i]? = some (a, .inr (9, fs))) (j : Nat) (hj : j < 24) (hr : (TN9 j).1 = RN9) (hw : Cond.fieldLinkNest own idx RN9 (TN9 j).2.1 (TN9 j).2.2.1 RL ∈ NWl) (hv : fs[j]? = some v) (d : decode cc pc = .ok (.getfield idx, 3)) (k : Gn K D A ws ce sl (pc + 3) L (v :: rest)) : Gn K D A ws ce sl pc L (.ref a :: rest) := by
  obtain ⟨p, l, e, R, s, m, args, below, meth, c, nL, Q, ce0, sl0⟩ := K
  obtain ⟨hx, hb, hml, hown, hts, hK, hlk, hfr, hlo, hmc, hms, hA, hN⟩ := C
  intro H locs ls hP hD hS hl
  exact va_getN hx hb hts in_N9 hown hK hP i hc (show vwCl[9]? = some (RN9, TN9, 24) from rfl) j hj (va_Nw.use rfl (hN.1 _ hw)) (fun _ h => by rw [← hr]; exact h) hv d (k H locs ls hP hD hS hl)
theorem g_cgetN {wl : va_W} (C : Nx K D cy cc own A fr lo mc ms) (hW : Wo K D A ws wl) (pc : Nat) {idx a : Nat} {fs : List Value} {v : Value} (i : Nat) (hc : wl[i]? = some (a, .inr (9, fs))) (j : Nat) (hj : j < 24) (hr : (TN9 j).1 = RN9) (hw : Cond.fieldLinkNest own idx RN9 (TN9 j).2.1 (TN9 j).2.2.1 RL ∈ NWl) (hv : fs[j]? = some v) (d : decode cc pc = .ok (.getfield idx, 3)) (k : Gn K D A ws ce sl (pc + 3) L (v :: rest)) : Gn K D A ws ce sl pc L (.ref a :: rest) := by
  obtain ⟨p, l, e, R, s, m, args, below, meth, c, nL, Q, ce0, sl0⟩ := K
  obtain ⟨hx, hb, hml, hown, hts, hK, hlk, hfr, hlo, hmc, hms, hA, hN⟩ := C
  intro H locs ls hP hD hS hl
  exact va_getN hx hb hts in_N9 hown hK (hW H locs hP hS) i hc (show vwCl[9]? = some (RN9, TN9, 24) from rfl) j hj (va_Nw.use rfl (hN.1 _ hw)) (fun _ h => by rw [← hr]; exact h) hv d (k H locs ls hP hD hS hl)
theorem g_cget {wl : va_W} (C : Nx K D cy cc own A fr lo mc ms) (hW : Wo K D A ws wl) (pc : Nat) {idx a : Nat} {fs : List Value} {v : Value} (i : Nat) (hc : wl[i]? = some (a, .inr (9, fs))) (j : Nat) (hj : j < 24) (hr : (TN9 j).1 = RN9) (hw : Cond.fieldLink own idx RN9 (TN9 j).2.1 (TN9 j).2.2.1 ∈ gw_tbl) (hv : fs[j]? = some v) (d : decode cc pc = .ok (.getfield idx, 3)) (k : Gn K D A ws ce sl (pc + 3) L (v :: rest)) : Gn K D A ws ce sl pc L (.ref a :: rest) := by
  obtain ⟨p, l, e, R, s, m, args, below, meth, c, nL, Q, ce0, sl0⟩ := K
  obtain ⟨hx, hb, hml, hown, hts, hK, hlk, hfr, hlo, hmc, hms, hA, hN⟩ := C
  intro H locs ls hP hD hS hl
  exact va_get hx hb hts in_N9 hown hK (hW H locs hP hS) i hc (show vwCl[9]? = some (RN9, TN9, 24) from rfl) j hj (hts _ hw) (fun _ h => by rw [← hr]; exact h) hv d (k H locs ls hP hD hS hl)
theorem g_putN (C : Nx K D cy cc own A fr lo mc ms) (pc : Nat) {idx a : Nat} {fs fs' : List Value} {v : Value} {ty : FieldType} {ws' : va_W} (i : Nat) (hc : ws[i]? = some (a, .inr (9, fs))) (j : Nat) (hj : j < 24) (hr : (TN9 j).1 = RN9) (hw : Cond.fieldLinkNest own idx RN9 (TN9 j).2.1 (TN9 j).2.2.1 RL ∈ NWl) (hfin : (TN9 j).2.2.2 = false) (hd : parseFieldDescriptor (TN9 j).2.2.1 = some ty) (hn : narrow ty v = v) (hfit : fits ty v = true) (hlen : j < fs.length) (hf : fs.set j v = fs') (hws : ws.set i (a, .inr (9, fs')) = ws') (d : decode cc pc = .ok (.putfield idx, 3)) (k : Gn K D A ws' ce sl (pc + 3) L rest) : Gn K D A ws ce sl pc L (v :: .ref a :: rest) := by
  subst hf
  subst hws
  obtain ⟨p, l, e, R, s, m, args, below, meth, c, nL, Q, ce0, sl0⟩ := K
  obtain ⟨hx, hb, hml, hown, hts, hK, hlk, hfr, hlo, hmc, hms, hA, hN⟩ := C
  intro H locs ls hP hD hS hl
  exact va_putN hx hb hts in_N9 tyN9 tyN9_ok nmN9 hown hK hP hD hS i hc (show vwCl[9]? = some (RN9, TN9, 24) from rfl) j hj (va_Nw.use rfl (hN.1 _ hw)) (fun _ h => by rw [← hr]; exact h) hfin hd hn hfit hlen d (fun H1 locs1 hP1 hD1 hS1 => k H1 locs1 ls hP1 hD1 hS1 hl)
-- arrays
theorem g_iald (C : Nx K D cy cc own A fr lo mc ms) (pc : Nat) {a n : Nat} {f : Nat → Int32} {j : Int32} (i : Nat) (hc : ws[i]? = some (a, .inl (cy 1, n, .inl f))) (hj : ib j n) (d : decode cc pc = .ok (.iaload, 1)) (k : Gn K D A ws ce sl (pc + 1) L (.int (f (ix j)) :: rest)) : Gn K D A ws ce sl pc L (.int j :: .ref a :: rest) := by
  obtain ⟨p, l, e, R, s, m, args, below, meth, c, nL, Q, ce0, sl0⟩ := K
  obtain ⟨hx, hb, hml, hown, hts, hK, hlk, hfr, hlo, hmc, hms, hA, hN⟩ := C
  intro H locs ls hP hD hS hl
  exact va_iald hx hb hK hP i 1 hc rfl hj d (k H locs ls hP hD hS hl)
theorem g_ciald {wl : va_W} (C : Nx K D cy cc own A fr lo mc ms) (hW : Wo K D A ws wl) (pc : Nat) {a n : Nat} {f : Nat → Int32} {j : Int32} (i : Nat) (hc : wl[i]? = some (a, .inl (cy 1, n, .inl f))) (hj : ib j n) (d : decode cc pc = .ok (.iaload, 1)) (k : Gn K D A ws ce sl (pc + 1) L (.int (f (ix j)) :: rest)) : Gn K D A ws ce sl pc L (.int j :: .ref a :: rest) := by
  obtain ⟨p, l, e, R, s, m, args, below, meth, c, nL, Q, ce0, sl0⟩ := K
  obtain ⟨hx, hb, hml, hown, hts, hK, hlk, hfr, hlo, hmc, hms, hA, hN⟩ := C
  intro H locs ls hP hD hS hl
  exact va_iald hx hb hK (hW H locs hP hS) i 1 hc rfl hj d (k H locs ls hP hD hS hl)
theorem g_iast (C : Nx K D cy cc own A fr lo mc ms) (pc : Nat) {a n : Nat} {f f' : Nat → Int32} {j x : Int32} {ws' : va_W} (i : Nat) (hc : ws[i]? = some (a, .inl (cy 1, n, .inl f))) (hj : ib j n) (hf : upd f (ix j) x = f') (hws : ws.set i (a, .inl (cy 1, n, .inl f')) = ws') (d : decode cc pc = .ok (.iastore, 1)) (k : Gn K D A ws' ce sl (pc + 1) L rest) : Gn K D A ws ce sl pc L (.int x :: .int j :: .ref a :: rest) := by
  subst hf
  subst hws
  obtain ⟨p, l, e, R, s, m, args, below, meth, c, nL, Q, ce0, sl0⟩ := K
  obtain ⟨hx, hb, hml, hown, hts, hK, hlk, hfr, hlo, hmc, hms, hA, hN⟩ := C
  intro H locs ls hP hD hS hl
  exact va_iast hx hb hK hP hD hS i 1 hc rfl hj d (fun H1 locs1 hP1 hD1 hS1 => k H1 locs1 ls hP1 hD1 hS1 hl)
theorem g_alen (C : Nx K D cy cc own A fr lo mc ms) (pc : Nat) {a : Nat} {x : vp_A} {v : Int32} {ty : FieldType} {cA : ClassId} (i t0 : Nat) (hc : ws[i]? = some (a, .inl (cA, x))) (ht : (T6 cy)[t0]? = some (cA, ty)) (hv : Int32.ofNat x.1 = v) (d : decode cc pc = .ok (.arraylength, 1)) (k : Gn K D A ws ce sl (pc + 1) L (.int v :: rest)) : Gn K D A ws ce sl pc L (.ref a :: rest) := by
  obtain ⟨p, l, e, R, s, m, args, below, meth, c, nL, Q, ce0, sl0⟩ := K
  obtain ⟨hx, hb, hml, hown, hts, hK, hlk, hfr, hlo, hmc, hms, hA, hN⟩ := C
  intro H locs ls hP hD hS hl
  exact va_alen hx hb hK hP i t0 hc ht hv d (k H locs ls hP hD hS hl)
theorem g_calen {wl : va_W} (C : Nx K D cy cc own A fr lo mc ms) (hW : Wo K D A ws wl) (pc : Nat) {a : Nat} {x : vp_A} {v : Int32} {ty : FieldType} {cA : ClassId} (i t0 : Nat) (hc : wl[i]? = some (a, .inl (cA, x))) (ht : (T6 cy)[t0]? = some (cA, ty)) (hv : Int32.ofNat x.1 = v) (d : decode cc pc = .ok (.arraylength, 1)) (k : Gn K D A ws ce sl (pc + 1) L (.int v :: rest)) : Gn K D A ws ce sl pc L (.ref a :: rest) := by
  obtain ⟨p, l, e, R, s, m, args, below, meth, c, nL, Q, ce0, sl0⟩ := K
  obtain ⟨hx, hb, hml, hown, hts, hK, hlk, hfr, hlo, hmc, hms, hA, hN⟩ := C
  intro H locs ls hP hD hS hl
  exact va_alen hx hb hK (hW H locs hP hS) i t0 hc ht hv d (k H locs ls hP hD hS hl)
theorem g_aald (C : Nx K D cy cc own A fr lo mc ms) (pc : Nat) {a b n : Nat} {f : Nat → Option Nat} {j : Int32} {ty : FieldType} {cA : ClassId} (i t0 : Nat) (hc : ws[i]? = some (a, .inl (cA, n, .inr (.inr (.inr (.inr f)))))) (ht : (T6 cy)[t0]? = some (cA, ty)) (hty : ty.isReference = true) (hj : ib j n) (hb2 : f (ix j) = some b) (d : decode cc pc = .ok (.aaload, 1)) (k : Gn K D A ws ce sl (pc + 1) L (.ref b :: rest)) : Gn K D A ws ce sl pc L (.int j :: .ref a :: rest) := by
  obtain ⟨p, l, e, R, s, m, args, below, meth, c, nL, Q, ce0, sl0⟩ := K
  obtain ⟨hx, hb, hml, hown, hts, hK, hlk, hfr, hlo, hmc, hms, hA, hN⟩ := C
  intro H locs ls hP hD hS hl
  have hlt : ix j < n := ib_lt hj
  have hv : (arrV cA n (fun j => va_rf (f j))).slots[ix j]? = some (.ref b) := by rw [arrV_read _ _ hlt, hb2]; rfl
  exact W.aald (v := .ref b) (ty := ty) hx hb (hP _ _ hc) ((hK.2 t0 _ ht).1 n (fun j => va_rf (f j))) hty (fun q => by cases q) (by show ¬ (j < 0 ∨ (arrV _ _ _).slots.size ≤ _); rw [arrV_size]; exact hj) hv rfl rfl d (k H locs ls hP hD hS hl)
theorem g_caald {wl : va_W} (C : Nx K D cy cc own A fr lo mc ms) (hW : Wo K D A ws wl) (pc : Nat) {a b n : Nat} {f : Nat → Option Nat} {j : Int32} {ty : FieldType} {cA : ClassId} (i t0 : Nat) (hc : wl[i]? = some (a, .inl (cA, n, .inr (.inr (.inr (.inr f)))))) (ht : (T6 cy)[t0]? = some (cA, ty)) (hty : ty.isReference = true) (hj : ib j n) (hb2 : f (ix j) = some b) (d : decode cc pc = .ok (.aaload, 1)) (k : Gn K D A ws ce sl (pc + 1) L (.ref b :: rest)) : Gn K D A ws ce sl pc L (.int j :: .ref a :: rest) := by
  obtain ⟨p, l, e, R, s, m, args, below, meth, c, nL, Q, ce0, sl0⟩ := K
  obtain ⟨hx, hb, hml, hown, hts, hK, hlk, hfr, hlo, hmc, hms, hA, hN⟩ := C
  intro H locs ls hP hD hS hl
  have hlt : ix j < n := ib_lt hj
  have hv : (arrV cA n (fun j => va_rf (f j))).slots[ix j]? = some (.ref b) := by rw [arrV_read _ _ hlt, hb2]; rfl
  exact W.aald (v := .ref b) (ty := ty) hx hb ((hW H locs hP hS) _ _ hc) ((hK.2 t0 _ ht).1 n (fun j => va_rf (f j))) hty (fun q => by cases q) (by show ¬ (j < 0 ∨ (arrV _ _ _).slots.size ≤ _); rw [arrV_size]; exact hj) hv rfl rfl d (k H locs ls hP hD hS hl)
/-- an array into an array of arrays -/
theorem g_aast (C : Nx K D cy cc own A fr lo mc ms) (pc : Nat) {a v n : Nat} {f f' : Nat → Option Nat} {j : Int32} {t : FieldType} {cA cV : ClassId} {x : vp_A} {ws' : va_W} (i t0 iv : Nat) (hc : ws[i]? = some (a, .inl (cA, n, .inr (.inr (.inr (.inr f)))))) (ht : (T6 cy)[t0]? = some (cA, .array t)) (hv : ws[iv]? = some (v, .inl (cV, x))) (hZ : ∀ U : State, NW U → va_AOT t U) (hR : ∀ U : State, va_K D vwCl (T6 cy) U → U.vm.findClass (FieldType.array t).toString = some cV) (hra : ∀ U : State, va_RA U cA (.array t) → U.vm.findClass ("[" ++ (FieldType.array t).toString) = some cA) (hj : ib j n) (hf : va_up f (ix j) (some v) = f') (hws : ws.set i (a, .inl (cA, n, .inr (.inr (.inr (.inr f'))))) = ws') (d : decode cc pc = .ok (.aastore, 1)) (k : Gn K D A ws' ce sl (pc + 1) L rest) : Gn K D A ws ce sl pc L (.ref v :: .int j :: .ref a :: rest) := by
  subst hf
  subst hws
  obtain ⟨p, l, e, R, s, m, args, below, meth, c, nL, Q, ce0, sl0⟩ := K
  obtain ⟨hx, hb, hml, hown, hts, hK, hlk, hfr, hlo, hmc, hms, hA, hN⟩ := C
  intro H locs ls hP hD hS hl
  have hlt : ix j < n := ib_lt hj
  have h0 : ¬ j < 0 := fun q => hj (Or.inl q)
  have hcv := hP iv _ hv
  have g3 : (vp_cell cV x).vm = .none := by obtain ⟨n, f | f | f | f | f⟩ := x <;> rfl
  have g2 : (vp_cell cV x).cls = cV := by obtain ⟨n, f | f | f | f | f⟩ := x <;> rfl
  obtain ⟨comp, cA2, kA, k3, -, k1, k2, k4⟩ := arrayOverA_spec (hZ s hN)
  cases (hra s (hK.2 t0 _ ht).2).symm.trans k4
  cases k3.symm.trans (hR s hK)
  obtain ⟨kE, hkE, -⟩ := Vm.findClass_spec k3
  refine W.aast hx hb (hP i _ hc) (fun q h => by cases h) (fun h => by cases h) k1 k2 rfl hkE ⟨h0, by show _ < (arrV _ _ _).slots.size; rw [arrV_size]; exact hlt⟩ hcv (fun q h => by rw [g3] at h; cases h) (by rw [g2]; exact hkE) (by rw [g2]; exact va_asg _ _) rfl rfl d fun H1 e z oq => ?_
  refine k H1 _ ls (hP.set hD hc ?_ oq) (hD.set hc) (hS.put z oq (hD.2 i _ hc)) hl
  show H1[a]? = some (vp_cell _ _)
  rw [e]
  rw [vp_cell_q, vp_cell_q, arrV_store]
  congr 2
  funext q
  by_cases hq : q = j.toNatClampNeg
  · subst hq
    simp [updV, va_up, va_rf]
  · simp [updV, va_up, hq]
/-- a new array of ints -/
theorem g_newi (C : Nx K D cy cc own A fr lo mc ms) (pc : Nat) {n : Int32} (N : Nat) (hn : ¬ n < 0) (hNn : n.toNatClampNeg = N) (hby : N * 4 ≤ 536870912) (hce : ce + 1 ≤ mc) (hsl : sl + N ≤ ms) (d : decode cc pc = .ok (.newarray .int, 2)) (k : ∀ q : Nat, Gn K D A (ws ++ [(q, .inl (cy 1, N, .inl (fun _ => 0)))]) (ce + 1) (sl + N) (pc + 2) L (.ref q :: rest)) : Gn K D A ws ce sl pc L (.int n :: rest) :=
  n_newa (ty := .int) (N := N) (a0 := (N, .inl (fun _ => 0))) C pc 1 rfl tw_142 rfl (fun _ h => h) (fun _ => rfl) hn hNn hby hce hsl d k
end GR2
section GR
variable {K : Kt} {D : va_G} {cy : Nat → ClassId} {cc : ByteArray} {own : String} {A : Nat → Prop} {fr lo mc ms ce sl : Nat} {ws : va_W} {L : List (Nat × Value)} {rest : List Value}
end GR
