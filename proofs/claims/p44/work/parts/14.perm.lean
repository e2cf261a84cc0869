/-! the new cells stand behind the object, the newest first -/
theorem va_P_perm {D : va_G} {ws ws' : va_W} {H : Heap} (hp : ws.Perm ws') (h : va_P D vwCl ws H) : va_P D vwCl ws' H := by
  intro k q hq
  have h1 : q ∈ ws := hp.symm.subset (List.mem_of_getElem? hq)
  obtain ⟨j, hj⟩ := List.mem_iff_getElem?.mp h1
  exact h j q hj
theorem va_D_iff {A : Nat → Prop} {ws : va_W} : va_D A ws ↔ (ws.map Prod.fst).Pairwise (fun a b => a ≠ b) ∧ ∀ q ∈ ws, A q.1 := by
  constructor
  · intro h
    refine ⟨?_, fun q hq => ?_⟩
    · rw [List.pairwise_iff_getElem]
      intro i j hi hj hij e
      rw [List.getElem_map, List.getElem_map] at e
      have := h.1 i j _ _ (List.getElem?_eq_getElem (by simpa using hi)) (List.getElem?_eq_getElem (by simpa using hj)) e
      omega
    · obtain ⟨j, hj⟩ := List.mem_iff_getElem?.mp hq
      exact h.2 j q hj
  · rintro ⟨h1, h2⟩
    refine ⟨fun i j p q hp hq e => ?_, fun k q hq => h2 q (List.mem_of_getElem? hq)⟩
    obtain ⟨hi, hpi⟩ := List.getElem?_eq_some_iff.mp hp
    obtain ⟨hj, hqj⟩ := List.getElem?_eq_some_iff.mp hq
    rw [List.pairwise_iff_getElem] at h1
    rcases Nat.lt_trichotomy i j with h | h | h
    · exact absurd (by rw [List.getElem_map, List.getElem_map, hpi, hqj]; exact e) (h1 i j (by simpa using hi) (by simpa using hj) h)
    · exact h
    · exact absurd (by rw [List.getElem_map, List.getElem_map, hpi, hqj]; exact e.symm) (h1 j i (by simpa using hj) (by simpa using hi) h)
theorem va_D_perm {A : Nat → Prop} {ws ws' : va_W} (hp : ws.Perm ws') (h : va_D A ws) : va_D A ws' := by
  rw [va_D_iff] at h ⊢
  exact ⟨(hp.map Prod.fst).pairwise h.1 (fun h => fun e => h e.symm), fun q hq => h.2 q (hp.symm.subset hq)⟩
theorem n_perm {K : Kt} {D : va_G} {A : Nat → Prop} {ws ws' : va_W} {ce sl pc : Nat} {L : List (Nat × Value)} {st : List Value} (hp : ws.Perm ws') (k : Gn K D A ws' ce sl pc L st) : Gn K D A ws ce sl pc L st := by
  obtain ⟨p, l, e, R, s, m, args, below, meth, c, nL, Q, ce0, sl0⟩ := K
  intro H locs ls hP hD hS hl
  exact k H locs ls (va_P_perm hp hP) (va_D_perm hp hD) hS hl
theorem pm_flip (x0 : Nat × va_E) (tl w : va_W) : ((x0 :: tl) ++ w).Perm (x0 :: (w ++ tl)) := List.Perm.cons x0 List.perm_append_comm
theorem pm_last (x0 x : Nat × va_E) (tl : va_W) : (x0 :: x :: tl).Perm ((x0 :: tl) ++ [x]) := List.Perm.cons x0 (List.perm_append_singleton x tl).symm
section NM
variable {K : Kt} {D : va_G} {cy : Nat → ClassId} {cc : ByteArray} {own : String} {A : Nat → Prop} {fr lo mc ms ce sl : Nat} {x0 : Nat × va_E} {tl : va_W} {L : List (Nat × Value)} {rest : List Value}
theorem m_put {a ci : Nat} {fs fs' : List Value} (C : Nx K D cy cc own A fr lo mc ms) (pc : Nat) {N idx : Nat} {ref Cn : String} {T : u_T} {v : Value} {ty : FieldType} (hcl : vwCl[ci]? = some (Cn, T, N)) (hin : ∀ w ∈ u_ws Cn T N, w ∈ gw_tbl) (tyf : Nat → FieldType) (hty : ∀ k, k < N → parseFieldDescriptor (T k).2.2.1 = some (tyf k)) (hnm : ∀ a, a < N → ∀ b, b < N → a ≠ b → (T a).2.1 ≠ (T b).2.1) (j : Nat) (hj : j < N) (hw : Cond.fieldLink own idx ref (T j).2.1 (T j).2.2.1 ∈ gw_tbl) (hr : (T j).1 = ref) (hfin : (T j).2.2.2 = false) (hd : parseFieldDescriptor (T j).2.2.1 = some ty) (hn : narrow ty v = v) (hfit : fits ty v = true) (hlen : j < fs.length) (hfs : fs.set j v = fs') (d : decode cc pc = .ok (.putfield idx, 3)) (k : Gn K D A ((a, .inr (ci, fs')) :: tl) ce sl (pc + 3) L rest) : Gn K D A ((a, .inr (ci, fs)) :: tl) ce sl pc L (v :: .ref a :: rest) := by
  subst hfs
  exact n_put C pc hcl hin tyf hty hnm j hj hw hr hfin hd hn hfit hlen d k
theorem m_putF {a ci : Nat} {fs fs' : List Value} (C : Nx K D cy cc own A fr lo mc ms) (hi : Ni K) (pc : Nat) {N idx : Nat} {ref Cn : String} {T : u_T} {v : Value} {ty : FieldType} (hcl : vwCl[ci]? = some (Cn, T, N)) (hin : ∀ w ∈ u_ws Cn T N, w ∈ gw_tbl) (tyf : Nat → FieldType) (hty : ∀ k, k < N → parseFieldDescriptor (T k).2.2.1 = some (tyf k)) (hnm : ∀ a, a < N → ∀ b, b < N → a ≠ b → (T a).2.1 ≠ (T b).2.1) (j : Nat) (hj : j < N) (hw : Cond.fieldLink own idx ref (T j).2.1 (T j).2.2.1 ∈ gw_tbl) (hr : (T j).1 = ref) (hfin : (T j).2.2.2 = true) (hdecl : (T j).1 = own) (hd : parseFieldDescriptor (T j).2.2.1 = some ty) (hn : narrow ty v = v) (hfit : fits ty v = true) (hlen : j < fs.length) (hfs : fs.set j v = fs') (d : decode cc pc = .ok (.putfield idx, 3)) (k : Gn K D A ((a, .inr (ci, fs')) :: tl) ce sl (pc + 3) L rest) : Gn K D A ((a, .inr (ci, fs)) :: tl) ce sl pc L (v :: .ref a :: rest) := by
  subst hfs
  exact n_putF C hi pc hcl hin tyf hty hnm j hj hw hr hfin hdecl hd hn hfit hlen d k
theorem m_new (C : Nx K D cy cc own A fr lo mc ms) (pc : Nat) {Cn : String} {T : u_T} {N ci idx : Nat} (hin : ∀ w ∈ u_ws Cn T N, w ∈ gw_tbl) (ty : Nat → FieldType) (hty : ∀ k, k < N → parseFieldDescriptor (T k).2.2.1 = some (ty k)) (hc1 : Cond.classLink own idx Cn ∈ gw_tbl) (hi1 : Cond.instantiable Cn N ∈ gw_tbl) (hn1 : Cond.initialized Cn ∈ gw_tbl) (hc : vwCl[ci]? = some (Cn, T, N)) {fs : List Value} (hfs : ∀ j, j < N → defaultValue (ty j) = vp_V fs j) (hce : ce + 1 ≤ mc) (hsl : sl + N ≤ ms) (d : decode cc pc = .ok (.new idx, 3)) (k : ∀ q, Gn K D A (x0 :: (q, .inr (ci, fs)) :: tl) (ce + 1) (sl + N) (pc + 3) L (.ref q :: rest)) : Gn K D A (x0 :: tl) ce sl pc L rest :=
  n_new C pc hin ty hty hc1 hi1 hn1 hc hfs hce hsl d (fun q => n_perm (pm_last x0 _ tl).symm (k q))
theorem m_newa (C : Nx K D cy cc own A fr lo mc ms) (pc : Nat) {atype : ArrayType} {ty : FieldType} {cA0 : ClassId} (t0 : Nat) {n : Int32} {N : Nat} {a0 : vp_A} (hty : newarray.typeOf atype = ty) (h1 : Cond.arrayClass ty ∈ gw_tbl) (ht : (T6 cy)[t0]? = some (cA0, ty)) (hpr : ∀ U : State, va_RA U cA0 ty → U.vm.findClass ("[" ++ ty.toString) = some cA0) (ha : ∀ cA : ClassId, vp_cell cA a0 = arrV cA N (fun _ => defaultValue ty)) (hn : ¬ n < 0) (hNn : n.toNatClampNeg = N) (hbytes : N * componentBytes ty ≤ 536870912) (hce : ce + 1 ≤ mc) (hsl : sl + N ≤ ms) (d : decode cc pc = .ok (.newarray atype, 2)) (k : ∀ q, Gn K D A (x0 :: (q, .inl (cA0, a0)) :: tl) (ce + 1) (sl + N) (pc + 2) L (.ref q :: rest)) : Gn K D A (x0 :: tl) ce sl pc L (.int n :: rest) :=
  n_newa C pc t0 hty h1 ht hpr ha hn hNn hbytes hce hsl d (fun q => n_perm (pm_last x0 _ tl).symm (k q))
theorem m_anewG (C : Nx K D cy cc own A fr lo mc ms) (pc : Nat) {idx : Nat} {n : Int32} {N : Nat} (h1 : Cond.classLink own idx "TentativeDesk$Going" ∈ gw_tbl) (hn : ¬ n < 0) (hNn : n.toNatClampNeg = N) (hbytes : N * 4 ≤ 536870912) (hce : ce + 1 ≤ mc) (hsl : sl + N ≤ ms) (d : decode cc pc = .ok (.anewarray idx, 3)) (k : ∀ q, Gn K D A (x0 :: (q, .inl (cy 4, N, .inr (.inr (.inr (.inr (fun _ => none)))))) :: tl) (ce + 1) (sl + N) (pc + 3) L (.ref q :: rest)) : Gn K D A (x0 :: tl) ce sl pc L (.int n :: rest) :=
  n_anewG C pc h1 hn hNn hbytes hce hsl d (fun q => n_perm (pm_last x0 _ tl).symm (k q))
theorem m_multi (C : Nx K D cy cc own A fr lo mc ms) (pc : Nat) {idx N M : Nat} {n k : Int32} (h1 : Cond.classLink own idx "[[J" ∈ gw_tbl) (h2 : Cond.arrayClass .long ∈ gw_tbl) (hn : ¬ n < 0) (hk : ¬ k < 0) (hN : n.toNatClampNeg = N) (hM : k.toNatClampNeg = M) (hb1 : N * 4 ≤ 536870912) (hb2 : M * 8 ≤ 536870912) (hce : ce + (1 + N) ≤ mc) (hsl : sl + (N + N * M) ≤ ms) (d : decode cc pc = .ok (.multianewarray idx 2, 4)) (kk : ∀ q, Gn K D A (x0 :: (mu_ws cy q N M ++ tl)) (ce + 1 + N) (sl + N + N * M) (pc + 4) L (.ref q :: rest)) : Gn K D A (x0 :: tl) ce sl pc L (.int k :: .int n :: rest) :=
  n_multi C pc h1 h2 hn hk hN hM hb1 hb2 hce hsl d (fun q => n_perm (pm_flip x0 tl _) (kk q))
theorem m_init (C : Nx K D cy cc own A fr lo mc ms) (pc : Nat) {idx : Nat} {y : MethodName} {b : ByteArray} {n fr2 lo2 mc2 ms2 q : Nat} {e0 : va_E} (As : List Value) {cells : (Nat → Nat) → va_W} (hlink : Cond.methodLink own idx y ∈ gw_tbl) (hm : Mw y b n none As.length) (hins : Cond.instanceMethod y ∈ gw_tbl) (hy : y.name = "<init>") (hM : Cn (Kl K) D cy y b n fr2 lo2 mc2 ms2 q As e0 (fun _ _ => True) cells)
    (hfr2 : fr2 + 1 ≤ fr) (hlo2 : 8 + (n + 11) + lo2 ≤ lo) (hce : ce + mc2 ≤ mc) (hsl : sl + ms2 ≤ ms) (hrest : (rest.map fun v => v.category).sum ≤ 8) {st : List Value} (hst : st = As.reverse ++ .ref q :: rest) (d : decode cc pc = .ok (.invokespecial idx, 3)) (k : ∀ u, Gn K D A (x0 :: (cells u ++ tl)) (ce + mc2) (sl + ms2) (pc + 3) L rest) : Gn K D A (x0 :: (q, e0) :: tl) ce sl pc L st :=
  n_perm (pm_last x0 (q, e0) tl) (n_init C pc As hlink hm hins hy hM (fun _ _ _ _ _ _ => trivial) (fun _ _ _ _ _ _ _ _ _ => trivial) hfr2 hlo2 hce hsl hrest hst d (fun u => n_perm (pm_flip x0 tl (cells u)) (k u)))
theorem m_initN (C : Nx K D cy cc own A fr lo mc ms) (pc : Nat) {idx : Nat} {y : MethodName} {host : String} {b : ByteArray} {n fr2 lo2 mc2 ms2 q : Nat} {e0 : va_E} (As : List Value) {cells : (Nat → Nat) → va_W} (hlink : Cond.methodLinkNest own idx y host ∈ NWl) (hm : Mw y b n none As.length) (hins : Cond.instanceMethod y ∈ gw_tbl) (hy : y.name = "<init>") (hM : Cn (Kl K) D cy y b n fr2 lo2 mc2 ms2 q As e0 (fun _ _ => True) cells)
    (hfr2 : fr2 + 1 ≤ fr) (hlo2 : 8 + (n + 11) + lo2 ≤ lo) (hce : ce + mc2 ≤ mc) (hsl : sl + ms2 ≤ ms) (hrest : (rest.map fun v => v.category).sum ≤ 8) {st : List Value} (hst : st = As.reverse ++ .ref q :: rest) (d : decode cc pc = .ok (.invokespecial idx, 3)) (k : ∀ u, Gn K D A (x0 :: (cells u ++ tl)) (ce + mc2) (sl + ms2) (pc + 3) L rest) : Gn K D A (x0 :: (q, e0) :: tl) ce sl pc L st :=
  n_perm (pm_last x0 (q, e0) tl) (n_initN C pc As hlink hm hins hy hM hfr2 hlo2 hce hsl hrest hst d (fun u => n_perm (pm_flip x0 tl (cells u)) (k u)))
theorem m_aast {a v ci n jj : Nat} {vs : List Value} {T : u_T} {N : Nat} {f : Nat → Option Nat} {i : Int32} {tl' : va_W} (C : Nx K D cy cc own A fr lo mc ms) (pc q0 qk : Nat) (ha : tl[q0]? = some (a, .inl (cy 4, n, .inr (.inr (.inr (.inr f)))))) (hv : tl[qk]? = some (v, .inr (ci, vs))) (hc : vwCl[ci]? = some ("TentativeDesk$Going", T, N)) (hin : ib i n) (hjj : i.toNatClampNeg = jj) (hset : tl.set q0 (a, .inl (cy 4, n, .inr (.inr (.inr (.inr (va_up f jj (some v))))))) = tl') (d : decode cc pc = .ok (.aastore, 1)) (k : Gn K D A (x0 :: tl') ce sl (pc + 1) L rest) : Gn K D A (x0 :: tl) ce sl pc L (.ref v :: .int i :: .ref a :: rest) := by
  subst hset; subst hjj
  exact n_aast C pc (q0 + 1) (qk + 1) (by rw [List.getElem?_cons_succ]; exact ha) (by rw [List.getElem?_cons_succ]; exact hv) hc hin d k
end NM
