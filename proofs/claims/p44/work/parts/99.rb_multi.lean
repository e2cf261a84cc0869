/-! new T[n][m] of ints and of booleans: as that of longs (part 14) -/
def mi_in (c : ClassId) (M : Nat) : Cell := arrV c M (fun _ => .int 0)
def mi_st (s : State) (c c1 : ClassId) (N M : Nat) : Nat → State
  | 0 => s.pushCell (mu_out c N s.heap.size 0)
  | i + 1 => ((mi_st s c c1 N M i).pushCell (mi_in c1 M)).setCell s.heap.size (mu_out c N s.heap.size (i + 1))
theorem mi_in0 (c : ClassId) (M : Nat) : mi_in c M = { cls := c, slots := Array.replicate M (defaultValue .int), vm := .none } := by
  rw [arrV_new]
  rfl
theorem mi_sizeI (c : ClassId) (M : Nat) : (mi_in c M).slots.size = M := arrV_size _ _ _
theorem mi_facts (s : State) (c c1 : ClassId) (N M : Nat) : ∀ i, (mi_st s c c1 N M i).heap.size = s.heap.size + 1 + i ∧ (mi_st s c c1 N M i).heap[s.heap.size]? = some (mu_out c N s.heap.size i) ∧ (mi_st s c c1 N M i).vm = s.vm ∧ (mi_st s c c1 N M i).slotsUsed = s.slotsUsed + N + i * M
  | 0 => ⟨by simp [mi_st], by simp [mi_st], rfl, by simp [mi_st, mu_size]⟩
  | i + 1 => by
    obtain ⟨a, b, d, u⟩ := mi_facts s c c1 N M i
    have hlt : s.heap.size < (mi_st s c c1 N M i).heap.size := by rw [a]; omega
    have hb : ((mi_st s c c1 N M i).pushCell (mi_in c1 M)).heap[s.heap.size]? = some (mu_out c N s.heap.size i) := by rw [State.heap_pushCell_of_lt (h := hlt)]; exact b
    refine ⟨?_, State.heap_setCell_self hb, by simp [mi_st, d], ?_⟩
    · simp [mi_st, State.setCell, a]; omega
    · simp [mi_st, u, mi_sizeI, Nat.succ_mul]; omega
theorem mi_setTop (s : State) (f : JFrame) (c c1 : ClassId) (N M : Nat) : ∀ i, mi_st (s.setTop f) c c1 N M i = (mi_st s c c1 N M i).setTop f
  | 0 => rfl
  | i + 1 => by simp only [mi_st, mi_setTop s f c c1 N M i, State.heap_setTop, State.pushCell_setTop, State.setCell_setTop]
theorem mi_old (s : State) (c c1 : ClassId) (N M : Nat) {a : Addr} (ha : a < s.heap.size) : ∀ i, (mi_st s c c1 N M i).heap[a]? = s.heap[a]?
  | 0 => State.heap_pushCell_of_lt _ _ ha
  | i + 1 => by
    have f1 := (mi_facts s c c1 N M i).1
    have hlt : a < (mi_st s c c1 N M i).heap.size := Nat.lt_of_lt_of_le ha (by rw [f1]; omega)
    show (((mi_st s c c1 N M i).pushCell (mi_in c1 M)).setCell s.heap.size _).heap[a]? = _
    rw [State.heap_setCell_other (Nat.ne_of_gt ha), State.heap_pushCell_of_lt (h := hlt)]
    exact mi_old s c c1 N M ha i
theorem mi_inner (s : State) (c c1 : ClassId) (N M : Nat) : ∀ i j, j < i → (mi_st s c c1 N M i).heap[s.heap.size + 1 + j]? = some (mi_in c1 M)
  | 0, _, h => absurd h (Nat.not_lt_zero _)
  | i + 1, j, h => by
    have f1 := (mi_facts s c c1 N M i).1
    show (((mi_st s c c1 N M i).pushCell (mi_in c1 M)).setCell s.heap.size _).heap[s.heap.size + 1 + j]? = _
    rw [State.heap_setCell_other (show s.heap.size ≠ s.heap.size + 1 + j by omega)]
    by_cases hj : j < i
    · have hlt : s.heap.size + 1 + j < (mi_st s c c1 N M i).heap.size := by rw [f1]; omega
      rw [State.heap_pushCell_of_lt (h := hlt)]
      exact mi_inner s c c1 N M i j hj
    · have e : j = i := by omega
      subst e
      rw [← f1]
      exact State.heap_pushCell_size _ _
section
variable {E : CtlPost} {e : Env} {d : Bool} {acts : List Action} {s : State}
theorem mi_make {c c1 cc : ClassId} {k kc : Class} {n m : Int32} (hk : s.vm.classes[c]? = some k) (hkind : k.kind = .array c1 (.array .int)) (hkc : s.vm.classes[c1]? = some kc) (hkindc : kc.kind = .array cc .int) (hn : ¬ n < 0) (hm : ¬ m < 0)
    (hl1 : ¬ n.toNatClampNeg > e.platform.arrayLengthLimit) (hh1 : ¬ n.toNatClampNeg * 4 > e.platform.maxHeapBytes) (hl2 : ¬ m.toNatClampNeg > e.platform.arrayLengthLimit) (hh2 : ¬ m.toNatClampNeg * 4 > e.platform.maxHeapBytes)
    (hc : s.heap.size + 1 + n.toNatClampNeg ≤ e.platform.maxCells) (hs : s.slotsUsed + n.toNatClampNeg + n.toNatClampNeg * m.toNatClampNeg ≤ e.platform.maxSlots)
    {Q : Addr → Pre} (hq : ∀ d' acts', Q s.heap.size d' acts' (mi_st s c c1 n.toNatClampNeg m.toNatClampNeg n.toNatClampNeg)) : wp (multianewarray.make c [n, m]) Q E e d acts s := by
  have hfind : ([m].find? (· < 0)) = none := by simp [hm]
  rw [multianewarray.make]
  simp only [wp_bind', Jvm.W.ite, hn, if_false, wp_pure', Jvm.W.theClass, hk, hkind, Option.some.injEq, exists_eq_left']
  refine mu_newArray (init := .null) hk hkind hl1 hh1 rfl rfl (by omega) (by have := Nat.zero_le (n.toNatClampNeg * m.toNatClampNeg); omega) ?_
  simp only [hfind]
  rw [ite_self, wp_bind', Std.Legacy.Range.forIn_eq_forIn_range']
  have hsz : ([:n.toNatClampNeg] : Std.Legacy.Range).size = n.toNatClampNeg := by simp [Std.Legacy.Range.size]
  rw [hsz, ← mu_out0 c n.toNatClampNeg s.heap.size]
  show wp (forIn (List.range' 0 n.toNatClampNeg 1) PUnit.unit _) _ E e d acts (mi_st s c c1 n.toNatClampNeg m.toNatClampNeg 0)
  refine wp_forIn_inv (fun rest s' => ∃ i, i ≤ n.toNatClampNeg ∧ rest = List.range' i (n.toNatClampNeg - i) ∧ s' = mi_st s c c1 n.toNatClampNeg m.toNatClampNeg i) _ _ ⟨0, Nat.zero_le _, rfl, rfl⟩ ?_ ?_
  · rintro x rest s' d' acts' Q' ⟨i, hi, hl, rfl⟩ hnext
    have hlt : i < n.toNatClampNeg := by
      rcases Nat.lt_or_ge i n.toNatClampNeg with h | h
      · exact h
      · rw [show n.toNatClampNeg - i = 0 from by omega] at hl; simp at hl
    obtain ⟨rfl, hrest⟩ : x = i ∧ rest = List.range' (i + 1) (n.toNatClampNeg - (i + 1)) := by
      rw [show n.toNatClampNeg - i = (n.toNatClampNeg - (i + 1)) + 1 from by omega, List.range'_succ] at hl
      exact ⟨(List.cons.inj hl).1, (List.cons.inj hl).2⟩
    obtain ⟨f1, f2, f3, f4⟩ := mi_facts s c c1 n.toNatClampNeg m.toNatClampNeg x
    have hmul : x * m.toNatClampNeg + m.toNatClampNeg ≤ n.toNatClampNeg * m.toNatClampNeg := by
      have := Nat.mul_le_mul_right m.toNatClampNeg (show x + 1 ≤ n.toNatClampNeg from hlt)
      rw [Nat.succ_mul] at this; exact this
    have hk2 : (mi_st s c c1 n.toNatClampNeg m.toNatClampNeg x).vm.classes[c]? = some k := by rw [f3]; exact hk
    have hkc2 : (mi_st s c c1 n.toNatClampNeg m.toNatClampNeg x).vm.classes[c1]? = some kc := by rw [f3]; exact hkc
    simp only [wp_bind']
    rw [multianewarray.make]
    simp only [wp_bind', Jvm.W.ite, hm, if_false, wp_pure', Jvm.W.theClass, hkc2, hkindc, Option.some.injEq, exists_eq_left']
    refine mu_newArray hkc2 hkindc hl2 hh2 rfl rfl (by rw [f1]; omega) (by rw [f4]; omega) ?_
    rw [← mi_in0 c1 m.toNatClampNeg]
    have hlt0 : s.heap.size < (mi_st s c c1 n.toNatClampNeg m.toNatClampNeg x).heap.size := by rw [f1]; omega
    simp only [wp_bind', Jvm.W.writeLoc, wp_pure']
    refine ⟨mu_out c n.toNatClampNeg s.heap.size x, by rw [State.heap_pushCell_of_lt (h := hlt0)]; exact f2, by simp [mu_out, arrV], by rw [mu_size]; exact hlt, ?_, hnext _ _ _ ⟨x + 1, hlt, hrest, ?_⟩⟩
    · simp [mu_out, arrV, State.fitsSlot, State.slotType?, f3, hk, hkind, fits]
    · rw [f1, mu_set]; rfl
  · rintro s' d' acts' ⟨i, hi, hl, rfl⟩
    have hiN : i = n.toNatClampNeg := by
      rcases Nat.lt_or_ge i n.toNatClampNeg with h | h
      · rw [show n.toNatClampNeg - i = (n.toNatClampNeg - (i + 1)) + 1 from by omega, List.range'_succ] at hl; cases hl
      · omega
    subst hiN
    simp only [wp_pure']
    exact hq _ _
end
section
variable {p : Program} {l : Launch} {e : Env} {R : Room} {s : State} {m : MethodId} {args : Array Value} {below : List Frame} {meth : Method} {c : Code} {T : State} {locs : List Loc} {cells slots : Nat} {Q : State → Prop}
theorem mi_stand (X : Stand p l e R s m args below meth c T locs cells slots) (cA c1 : ClassId) (N M : Nat) : ∀ i, Stand p l e R s m args below meth c (mi_st T cA c1 N M i) (locs ++ (List.range i).map fun j => ⟨T.heap.size, j⟩) (cells + 1 + i) (slots + N + i * M)
  | 0 => by
    have h := X.pushed (mu_out cA N T.heap.size 0)
    rw [mu_size] at h
    simpa [mi_st] using h
  | i + 1 => by
    have Xi := mi_stand X cA c1 N M i
    obtain ⟨f1, f2, f3, f4⟩ := mi_facts T cA c1 N M i
    have hlt0 : T.heap.size < (mi_st T cA c1 N M i).heap.size := by rw [f1]; omega
    have hcell : ((mi_st T cA c1 N M i).pushCell (mi_in c1 M)).heap[T.heap.size]? = some (mu_out cA N T.heap.size i) := by rw [State.heap_pushCell_of_lt (h := hlt0)]; exact f2
    have h := (Xi.pushed (mi_in c1 M)).stored hcell i (.ref (T.heap.size + 1 + i))
    rw [mu_set, mi_sizeI] at h
    have e2 : (locs ++ (List.range (i + 1)).map fun j => (⟨T.heap.size, j⟩ : Loc)) = (locs ++ (List.range i).map fun j => (⟨T.heap.size, j⟩ : Loc)) ++ [⟨T.heap.size, i⟩] := by simp [List.range_succ, List.append_assoc]
    have e3 : slots + N + (i + 1) * M = slots + N + i * M + M := by rw [Nat.succ_mul]; omega
    rw [e2, e3]
    exact h
/-- the row: multianewarray of two dimensions, of longs -/
theorem mi_W {cc : ByteArray} (hexec : p.tables.exec = Jvm.exec) (hb : c.code = cc) {own : String} {index : Nat} (hown : s.vm.findClass own = some m.cls) (hclink : (Cond.classLink own index "[[I").before args s = true) (hover : va_AOT .int s) (harr : (Cond.arrayClass .int).before args s = true)
    {H : Heap} {pc : Nat} {ls : Array Slot} {rest : List Value} {n k : Int32} (hdg : decode cc pc = .ok (.multianewarray index 2, 4)) (hn : ¬ n < 0) (hk : ¬ k < 0) (hb1 : n.toNatClampNeg * 4 ≤ 536870912) (hb2 : k.toNatClampNeg * 4 ≤ 536870912) (hcells : cells + (1 + n.toNatClampNeg) ≤ R.cells) (hslots : slots + (n.toNatClampNeg + n.toNatClampNeg * k.toNatClampNeg) ≤ R.slots)
    (kk : ∀ (cA c1 : ClassId) (H1 : Heap), s.vm.findClass "[[I" = some cA → s.vm.findClass "[I" = some c1 → H1.size = H.size + 1 + n.toNatClampNeg → H1[H.size]? = some (mu_out cA n.toNatClampNeg H.size n.toNatClampNeg) → (∀ j, j < n.toNatClampNeg → H1[H.size + 1 + j]? = some (mi_in c1 k.toNatClampNeg)) → (∀ a, a < H.size → H1[a]? = H[a]?) →
      W p l e R s m args below meth c H1 (locs ++ (List.range n.toNatClampNeg).map fun j => ⟨H.size, j⟩) (cells + 1 + n.toNatClampNeg) (slots + n.toNatClampNeg + n.toNatClampNeg * k.toNatClampNeg) Q (F0 m (pc + 4) ls (.ref H.size :: rest))) : W p l e R s m args below meth c H locs cells slots Q (F0 m pc ls (.int k :: .int n :: rest)) := by
  intro T hT X
  subst hT; subst hb
  have hpl : e.platform.magicAccessors = ({} : Platform).magicAccessors := by rw [X.admits.platform]
  obtain ⟨comp, cA, kA, hcomp, -, hkA, hkindA, hnameA⟩ := arrayOverA_spec hover
  obtain ⟨comp', kC, cc, hcomp', hkC, hkindC⟩ := Cond.arrayClass_spec harr
  have ecomp : comp' = comp := Option.some.inj (hcomp'.symm.trans hcomp)
  subst ecomp
  obtain ⟨c0, hfc0, hcl⟩ := Cond.classLink_spec hown hclink e.platform hpl
  have e0 : cA = c0 := Option.some.inj (hnameA.symm.trans hfc0)
  subst e0
  obtain ⟨hg₁, hwarm₁, hready₁⟩ := State.classEntry (e := e) X.warmed hcl
  generalize T.vm.noted m.cls index (.cls cA) = vm₁ at hg₁ hwarm₁ hready₁
  have hal : s.vm.Alike vm₁ := hwarm₁.alike
  obtain ⟨kA₁, hkA₁, heA⟩ := hal.2.2 _ _ hkA
  obtain ⟨kC₁, hkC₁, heC⟩ := hal.2.2 _ _ hkC
  have hkindA₁ : kA₁.kind = .array comp' (.array .int) := by rw [heA]; exact hkindA
  have hkindC₁ : kC₁.kind = .array cc .int := by rw [heC]; exact hkindC
  have X₁ := X.noted hwarm₁
  obtain ⟨hr1, hr2⟩ := X.roomAbove hcells hslots
  have XF := mi_stand X₁ cA comp' n.toNatClampNeg k.toNatClampNeg n.toNatClampNeg
  obtain ⟨f1, f2, f3, f4⟩ := mi_facts (T.setVm vm₁) cA comp' n.toNatClampNeg k.toNatClampNeg n.toNatClampNeg
  obtain ⟨t', a1, b1⟩ := kk cA comp' _ hnameA hcomp f1 f2 (fun j hj => mi_inner (T.setVm vm₁) cA comp' _ _ _ j hj) (fun a ha => mi_old (T.setVm vm₁) cA comp' _ _ ha _) (mi_st (T.setVm vm₁) cA comp' n.toNatClampNeg k.toNatClampNeg n.toNatClampNeg) rfl XF
  refine ⟨t', ?_, b1⟩
  have hl1 : ¬ n.toNatClampNeg > e.platform.arrayLengthLimit := by rw [Launch.admits_arrayLengthLimit X.admits]; omega
  have hh1 : ¬ n.toNatClampNeg * 4 > e.platform.maxHeapBytes := by rw [Launch.admits_maxHeapBytes X.admits]; omega
  have hl2 : ¬ k.toNatClampNeg > e.platform.arrayLengthLimit := by rw [Launch.admits_arrayLengthLimit X.admits]; omega
  have hh2 : ¬ k.toNatClampNeg * 4 > e.platform.maxHeapBytes := by rw [Launch.admits_maxHeapBytes X.admits]; omega
  jvm_step X.here [hexec, hdg]
  simp only [multianewarray.sem, wp_bind', Jvm.W.resolveClassAt_links (State.method?_setTop (F0 m pc ls (.int k :: .int n :: rest)) X.here.top) hg₁]
  rw [Jvm.W.popN, if_neg (by decide)]
  refine ⟨F0 m pc ls (.int k :: .int n :: rest), State.topJava?_setTop' (s := T.setVm vm₁) (F0 m pc ls (.int k :: .int n :: rest)) X.here.top, [.int n, .int k], rest, rfl, rfl, ?_⟩
  simp only [List.mapM_cons, List.mapM_nil, wp_bind', wp_pure']
  refine mi_make (k := kA₁) (kc := kC₁) (c1 := comp') (cc := cc) hkA₁ hkindA₁ hkC₁ hkindC₁ hn hk hl1 hh1 hl2 hh2 (by show T.heap.size + 1 + _ ≤ _; omega) (by show T.slotsUsed + _ + _ ≤ _; omega) (fun d' acts' => ?_)
  have eS : ((T.setTop (F0 m pc ls (.int k :: .int n :: rest))).setVm vm₁).setTop { F0 m pc ls (.int k :: .int n :: rest) with stack := rest } = (T.setVm vm₁).setTop { F0 m pc ls (.int k :: .int n :: rest) with stack := rest } := by
    show ((T.setVm vm₁).setTop _).setTop _ = _
    rw [State.setTop_setTop]
  rw [eS, mi_setTop]
  simp only [wp_bind', Jvm.W.mark, Jvm.W.pushRef, State.topJava?_setTop' _ XF.here.top, Option.some.injEq, exists_eq_left', State.setTop_setTop, State.heap_setTop]
  intro acts
  simp [jvm, XF.here.top]
  exact a1
end
/-- the cells that it makes -/
def mi_ws (cy : Nat → ClassId) (q N M : Nat) : va_W := (q, .inl (cy 6, N, .inr (.inr (.inr (.inr (fun j => some (q + 1 + j))))))) :: (List.range N).map (fun j => (q + 1 + j, .inl (cy 1, M, .inl (fun _ => 0))))
theorem mi_ws_at (cy : Nat → ClassId) (q N M : Nat) : ∀ (i : Nat) (x : Nat × va_E), (mi_ws cy q N M)[i]? = some x → i < N + 1 ∧ x.1 = q + i ∧ ((i = 0 ∧ x.2 = .inl (cy 6, N, .inr (.inr (.inr (.inr (fun j => some (q + 1 + j))))))) ∨ (∃ j, i = j + 1 ∧ j < N ∧ x.2 = .inl (cy 1, M, .inl (fun _ => 0)))) := by
  intro i x h
  unfold mi_ws at h
  match i, h with
  | 0, h =>
    cases h
    exact ⟨by omega, rfl, Or.inl ⟨rfl, rfl⟩⟩
  | i + 1, h =>
    rw [List.getElem?_cons_succ, List.getElem?_map] at h
    by_cases hi : i < N
    · rw [List.getElem?_range hi] at h
      cases h
      exact ⟨by omega, by show q + 1 + i = q + (i + 1); omega, Or.inr ⟨i, rfl, hi, rfl⟩⟩
    · rw [List.getElem?_eq_none (by simp; omega)] at h
      cases h
theorem n_multi_mi {K : Kt} {D : va_G} {cy : Nat → ClassId} {cc : ByteArray} {own : String} {A : Nat → Prop} {fr lo mc ms ce sl : Nat} {ws : va_W} {L : List (Nat × Value)} {rest : List Value} (C : Nx K D cy cc own A fr lo mc ms) (pc : Nat) {idx N M : Nat} {n k : Int32} (h1 : Cond.classLink own idx "[[I" ∈ gw_tbl) (h2 : Cond.arrayClass .int ∈ gw_tbl) (hn : ¬ n < 0) (hk : ¬ k < 0) (hN : n.toNatClampNeg = N) (hM : k.toNatClampNeg = M) (hb1 : N * 4 ≤ 536870912) (hb2 : M * 4 ≤ 536870912) (hce : ce + (1 + N) ≤ mc) (hsl : sl + (N + N * M) ≤ ms) (d : decode cc pc = .ok (.multianewarray idx 2, 4)) (kk : ∀ q, Gn K D A (ws ++ mi_ws cy q N M) (ce + 1 + N) (sl + N + N * M) (pc + 4) L (.ref q :: rest)) : Gn K D A ws ce sl pc L (.int k :: .int n :: rest) := by
  obtain ⟨p, l, e, R, s, m, args, below, meth, c, nL, Q, ce0, sl0⟩ := K
  obtain ⟨hx, hb, hml, hown, hts, hK, hlk, hfr, hlo, hmc, hms, hA, hNW⟩ := C
  intro H locs ls hP hD hS hl
  subst hN; subst hM
  refine mi_W hx hb hown (hts _ h1) hNW.2.2.2.1 (hts _ h2) d hn hk hb1 hb2 (Nat.le_trans hce hmc) (Nat.le_trans hsl hms) (fun cA c1 H1 f1 f2 z1 e1 e2 o1 => ?_)
  have ec : cA = cy 6 := Option.some.inj (f1.symm.trans (hK.2 6 _ rfl).2)
  have ec1 : c1 = cy 1 := Option.some.inj (f2.symm.trans (hK.2 1 _ rfl).2)
  subst ec; subst ec1
  have hq : ∀ (j : Nat) (x : Nat × va_E), ws[j]? = some x → x.1 < H.size := fun j x hx => (hP j x hx).lt
  have hw := mi_ws_at cy H.size n.toNatClampNeg k.toNatClampNeg
  refine kk H.size H1 _ ls (va_P.app (fun j x hx => (hP j x hx).kept (o1 x.1 (hq j x hx))) ?_) ?_ ?_ hl
  · intro i x hx
    obtain ⟨hi, ha, h | ⟨j, hj, hj2, h⟩⟩ := hw i x hx
    · obtain ⟨h0, h⟩ := h
      obtain ⟨x1, x2⟩ := x
      subst h; subst h0
      have ha : x1 = H.size := ha
      subst ha
      rw [mu_arr] at e1
      exact e1
    · obtain ⟨x1, x2⟩ := x
      subst h; subst hj
      have ha : x1 = H.size + 1 + j := by have : x1 = H.size + (j + 1) := ha; omega
      subst ha
      exact e2 j hj2
  · refine va_D.app hD ⟨fun i j x y h1 h2 e => ?_, fun i x hx => ?_⟩ (fun i j x y h1 h2 e => ?_)
    · have a1 := (hw i x h1).2.1
      have a2 := (hw j y h2).2.1
      have e2 : x.1 = y.1 := e
      omega
    · refine hA _ ?_
      have a1 := (hw i x hx).2.1
      have := hS.1
      omega
    · have a1 := hq i x h1
      have a2 := (hw j y h2).2.1
      have e2 : x.1 = y.1 := e
      omega
  · refine ⟨by rw [z1]; have := hS.1; omega, fun a h1 h2 => by rw [o1 a (Nat.lt_of_lt_of_le h1 hS.1)]; exact hS.2.1 a h1 h2, fun q hq => ?_⟩
    rcases List.mem_append.mp hq with h | h
    · exact hS.2.2 q h
    · obtain ⟨j, -, rfl⟩ := List.mem_map.mp h
      exact hA _ hS.1
def mz_in (c : ClassId) (M : Nat) : Cell := arrV c M (fun _ => .int 0)
def mz_st (s : State) (c c1 : ClassId) (N M : Nat) : Nat → State
  | 0 => s.pushCell (mu_out c N s.heap.size 0)
  | i + 1 => ((mz_st s c c1 N M i).pushCell (mz_in c1 M)).setCell s.heap.size (mu_out c N s.heap.size (i + 1))
theorem mz_in0 (c : ClassId) (M : Nat) : mz_in c M = { cls := c, slots := Array.replicate M (defaultValue .boolean), vm := .none } := by
  rw [arrV_new]
  rfl
theorem mz_sizeI (c : ClassId) (M : Nat) : (mz_in c M).slots.size = M := arrV_size _ _ _
theorem mz_facts (s : State) (c c1 : ClassId) (N M : Nat) : ∀ i, (mz_st s c c1 N M i).heap.size = s.heap.size + 1 + i ∧ (mz_st s c c1 N M i).heap[s.heap.size]? = some (mu_out c N s.heap.size i) ∧ (mz_st s c c1 N M i).vm = s.vm ∧ (mz_st s c c1 N M i).slotsUsed = s.slotsUsed + N + i * M
  | 0 => ⟨by simp [mz_st], by simp [mz_st], rfl, by simp [mz_st, mu_size]⟩
  | i + 1 => by
    obtain ⟨a, b, d, u⟩ := mz_facts s c c1 N M i
    have hlt : s.heap.size < (mz_st s c c1 N M i).heap.size := by rw [a]; omega
    have hb : ((mz_st s c c1 N M i).pushCell (mz_in c1 M)).heap[s.heap.size]? = some (mu_out c N s.heap.size i) := by rw [State.heap_pushCell_of_lt (h := hlt)]; exact b
    refine ⟨?_, State.heap_setCell_self hb, by simp [mz_st, d], ?_⟩
    · simp [mz_st, State.setCell, a]; omega
    · simp [mz_st, u, mz_sizeI, Nat.succ_mul]; omega
theorem mz_setTop (s : State) (f : JFrame) (c c1 : ClassId) (N M : Nat) : ∀ i, mz_st (s.setTop f) c c1 N M i = (mz_st s c c1 N M i).setTop f
  | 0 => rfl
  | i + 1 => by simp only [mz_st, mz_setTop s f c c1 N M i, State.heap_setTop, State.pushCell_setTop, State.setCell_setTop]
theorem mz_old (s : State) (c c1 : ClassId) (N M : Nat) {a : Addr} (ha : a < s.heap.size) : ∀ i, (mz_st s c c1 N M i).heap[a]? = s.heap[a]?
  | 0 => State.heap_pushCell_of_lt _ _ ha
  | i + 1 => by
    have f1 := (mz_facts s c c1 N M i).1
    have hlt : a < (mz_st s c c1 N M i).heap.size := Nat.lt_of_lt_of_le ha (by rw [f1]; omega)
    show (((mz_st s c c1 N M i).pushCell (mz_in c1 M)).setCell s.heap.size _).heap[a]? = _
    rw [State.heap_setCell_other (Nat.ne_of_gt ha), State.heap_pushCell_of_lt (h := hlt)]
    exact mz_old s c c1 N M ha i
theorem mz_inner (s : State) (c c1 : ClassId) (N M : Nat) : ∀ i j, j < i → (mz_st s c c1 N M i).heap[s.heap.size + 1 + j]? = some (mz_in c1 M)
  | 0, _, h => absurd h (Nat.not_lt_zero _)
  | i + 1, j, h => by
    have f1 := (mz_facts s c c1 N M i).1
    show (((mz_st s c c1 N M i).pushCell (mz_in c1 M)).setCell s.heap.size _).heap[s.heap.size + 1 + j]? = _
    rw [State.heap_setCell_other (show s.heap.size ≠ s.heap.size + 1 + j by omega)]
    by_cases hj : j < i
    · have hlt : s.heap.size + 1 + j < (mz_st s c c1 N M i).heap.size := by rw [f1]; omega
      rw [State.heap_pushCell_of_lt (h := hlt)]
      exact mz_inner s c c1 N M i j hj
    · have e : j = i := by omega
      subst e
      rw [← f1]
      exact State.heap_pushCell_size _ _
section
variable {E : CtlPost} {e : Env} {d : Bool} {acts : List Action} {s : State}
theorem mz_make {c c1 cc : ClassId} {k kc : Class} {n m : Int32} (hk : s.vm.classes[c]? = some k) (hkind : k.kind = .array c1 (.array .boolean)) (hkc : s.vm.classes[c1]? = some kc) (hkindc : kc.kind = .array cc .boolean) (hn : ¬ n < 0) (hm : ¬ m < 0)
    (hl1 : ¬ n.toNatClampNeg > e.platform.arrayLengthLimit) (hh1 : ¬ n.toNatClampNeg * 4 > e.platform.maxHeapBytes) (hl2 : ¬ m.toNatClampNeg > e.platform.arrayLengthLimit) (hh2 : ¬ m.toNatClampNeg * 1 > e.platform.maxHeapBytes)
    (hc : s.heap.size + 1 + n.toNatClampNeg ≤ e.platform.maxCells) (hs : s.slotsUsed + n.toNatClampNeg + n.toNatClampNeg * m.toNatClampNeg ≤ e.platform.maxSlots)
    {Q : Addr → Pre} (hq : ∀ d' acts', Q s.heap.size d' acts' (mz_st s c c1 n.toNatClampNeg m.toNatClampNeg n.toNatClampNeg)) : wp (multianewarray.make c [n, m]) Q E e d acts s := by
  have hfind : ([m].find? (· < 0)) = none := by simp [hm]
  rw [multianewarray.make]
  simp only [wp_bind', Jvm.W.ite, hn, if_false, wp_pure', Jvm.W.theClass, hk, hkind, Option.some.injEq, exists_eq_left']
  refine mu_newArray (init := .null) hk hkind hl1 hh1 rfl rfl (by omega) (by have := Nat.zero_le (n.toNatClampNeg * m.toNatClampNeg); omega) ?_
  simp only [hfind]
  rw [ite_self, wp_bind', Std.Legacy.Range.forIn_eq_forIn_range']
  have hsz : ([:n.toNatClampNeg] : Std.Legacy.Range).size = n.toNatClampNeg := by simp [Std.Legacy.Range.size]
  rw [hsz, ← mu_out0 c n.toNatClampNeg s.heap.size]
  show wp (forIn (List.range' 0 n.toNatClampNeg 1) PUnit.unit _) _ E e d acts (mz_st s c c1 n.toNatClampNeg m.toNatClampNeg 0)
  refine wp_forIn_inv (fun rest s' => ∃ i, i ≤ n.toNatClampNeg ∧ rest = List.range' i (n.toNatClampNeg - i) ∧ s' = mz_st s c c1 n.toNatClampNeg m.toNatClampNeg i) _ _ ⟨0, Nat.zero_le _, rfl, rfl⟩ ?_ ?_
  · rintro x rest s' d' acts' Q' ⟨i, hi, hl, rfl⟩ hnext
    have hlt : i < n.toNatClampNeg := by
      rcases Nat.lt_or_ge i n.toNatClampNeg with h | h
      · exact h
      · rw [show n.toNatClampNeg - i = 0 from by omega] at hl; simp at hl
    obtain ⟨rfl, hrest⟩ : x = i ∧ rest = List.range' (i + 1) (n.toNatClampNeg - (i + 1)) := by
      rw [show n.toNatClampNeg - i = (n.toNatClampNeg - (i + 1)) + 1 from by omega, List.range'_succ] at hl
      exact ⟨(List.cons.inj hl).1, (List.cons.inj hl).2⟩
    obtain ⟨f1, f2, f3, f4⟩ := mz_facts s c c1 n.toNatClampNeg m.toNatClampNeg x
    have hmul : x * m.toNatClampNeg + m.toNatClampNeg ≤ n.toNatClampNeg * m.toNatClampNeg := by
      have := Nat.mul_le_mul_right m.toNatClampNeg (show x + 1 ≤ n.toNatClampNeg from hlt)
      rw [Nat.succ_mul] at this; exact this
    have hk2 : (mz_st s c c1 n.toNatClampNeg m.toNatClampNeg x).vm.classes[c]? = some k := by rw [f3]; exact hk
    have hkc2 : (mz_st s c c1 n.toNatClampNeg m.toNatClampNeg x).vm.classes[c1]? = some kc := by rw [f3]; exact hkc
    simp only [wp_bind']
    rw [multianewarray.make]
    simp only [wp_bind', Jvm.W.ite, hm, if_false, wp_pure', Jvm.W.theClass, hkc2, hkindc, Option.some.injEq, exists_eq_left']
    refine mu_newArray hkc2 hkindc hl2 hh2 rfl rfl (by rw [f1]; omega) (by rw [f4]; omega) ?_
    rw [← mz_in0 c1 m.toNatClampNeg]
    have hlt0 : s.heap.size < (mz_st s c c1 n.toNatClampNeg m.toNatClampNeg x).heap.size := by rw [f1]; omega
    simp only [wp_bind', Jvm.W.writeLoc, wp_pure']
    refine ⟨mu_out c n.toNatClampNeg s.heap.size x, by rw [State.heap_pushCell_of_lt (h := hlt0)]; exact f2, by simp [mu_out, arrV], by rw [mu_size]; exact hlt, ?_, hnext _ _ _ ⟨x + 1, hlt, hrest, ?_⟩⟩
    · simp [mu_out, arrV, State.fitsSlot, State.slotType?, f3, hk, hkind, fits]
    · rw [f1, mu_set]; rfl
  · rintro s' d' acts' ⟨i, hi, hl, rfl⟩
    have hiN : i = n.toNatClampNeg := by
      rcases Nat.lt_or_ge i n.toNatClampNeg with h | h
      · rw [show n.toNatClampNeg - i = (n.toNatClampNeg - (i + 1)) + 1 from by omega, List.range'_succ] at hl; cases hl
      · omega
    subst hiN
    simp only [wp_pure']
    exact hq _ _
end
section
variable {p : Program} {l : Launch} {e : Env} {R : Room} {s : State} {m : MethodId} {args : Array Value} {below : List Frame} {meth : Method} {c : Code} {T : State} {locs : List Loc} {cells slots : Nat} {Q : State → Prop}
theorem mz_stand (X : Stand p l e R s m args below meth c T locs cells slots) (cA c1 : ClassId) (N M : Nat) : ∀ i, Stand p l e R s m args below meth c (mz_st T cA c1 N M i) (locs ++ (List.range i).map fun j => ⟨T.heap.size, j⟩) (cells + 1 + i) (slots + N + i * M)
  | 0 => by
    have h := X.pushed (mu_out cA N T.heap.size 0)
    rw [mu_size] at h
    simpa [mz_st] using h
  | i + 1 => by
    have Xi := mz_stand X cA c1 N M i
    obtain ⟨f1, f2, f3, f4⟩ := mz_facts T cA c1 N M i
    have hlt0 : T.heap.size < (mz_st T cA c1 N M i).heap.size := by rw [f1]; omega
    have hcell : ((mz_st T cA c1 N M i).pushCell (mz_in c1 M)).heap[T.heap.size]? = some (mu_out cA N T.heap.size i) := by rw [State.heap_pushCell_of_lt (h := hlt0)]; exact f2
    have h := (Xi.pushed (mz_in c1 M)).stored hcell i (.ref (T.heap.size + 1 + i))
    rw [mu_set, mz_sizeI] at h
    have e2 : (locs ++ (List.range (i + 1)).map fun j => (⟨T.heap.size, j⟩ : Loc)) = (locs ++ (List.range i).map fun j => (⟨T.heap.size, j⟩ : Loc)) ++ [⟨T.heap.size, i⟩] := by simp [List.range_succ, List.append_assoc]
    have e3 : slots + N + (i + 1) * M = slots + N + i * M + M := by rw [Nat.succ_mul]; omega
    rw [e2, e3]
    exact h
/-- the row: multianewarray of two dimensions, of longs -/
theorem mz_W {cc : ByteArray} (hexec : p.tables.exec = Jvm.exec) (hb : c.code = cc) {own : String} {index : Nat} (hown : s.vm.findClass own = some m.cls) (hclink : (Cond.classLink own index "[[Z").before args s = true) (hover : va_AOT .boolean s) (harr : (Cond.arrayClass .boolean).before args s = true)
    {H : Heap} {pc : Nat} {ls : Array Slot} {rest : List Value} {n k : Int32} (hdg : decode cc pc = .ok (.multianewarray index 2, 4)) (hn : ¬ n < 0) (hk : ¬ k < 0) (hb1 : n.toNatClampNeg * 4 ≤ 536870912) (hb2 : k.toNatClampNeg * 1 ≤ 536870912) (hcells : cells + (1 + n.toNatClampNeg) ≤ R.cells) (hslots : slots + (n.toNatClampNeg + n.toNatClampNeg * k.toNatClampNeg) ≤ R.slots)
    (kk : ∀ (cA c1 : ClassId) (H1 : Heap), s.vm.findClass "[[Z" = some cA → s.vm.findClass "[Z" = some c1 → H1.size = H.size + 1 + n.toNatClampNeg → H1[H.size]? = some (mu_out cA n.toNatClampNeg H.size n.toNatClampNeg) → (∀ j, j < n.toNatClampNeg → H1[H.size + 1 + j]? = some (mz_in c1 k.toNatClampNeg)) → (∀ a, a < H.size → H1[a]? = H[a]?) →
      W p l e R s m args below meth c H1 (locs ++ (List.range n.toNatClampNeg).map fun j => ⟨H.size, j⟩) (cells + 1 + n.toNatClampNeg) (slots + n.toNatClampNeg + n.toNatClampNeg * k.toNatClampNeg) Q (F0 m (pc + 4) ls (.ref H.size :: rest))) : W p l e R s m args below meth c H locs cells slots Q (F0 m pc ls (.int k :: .int n :: rest)) := by
  intro T hT X
  subst hT; subst hb
  have hpl : e.platform.magicAccessors = ({} : Platform).magicAccessors := by rw [X.admits.platform]
  obtain ⟨comp, cA, kA, hcomp, -, hkA, hkindA, hnameA⟩ := arrayOverA_spec hover
  obtain ⟨comp', kC, cc, hcomp', hkC, hkindC⟩ := Cond.arrayClass_spec harr
  have ecomp : comp' = comp := Option.some.inj (hcomp'.symm.trans hcomp)
  subst ecomp
  obtain ⟨c0, hfc0, hcl⟩ := Cond.classLink_spec hown hclink e.platform hpl
  have e0 : cA = c0 := Option.some.inj (hnameA.symm.trans hfc0)
  subst e0
  obtain ⟨hg₁, hwarm₁, hready₁⟩ := State.classEntry (e := e) X.warmed hcl
  generalize T.vm.noted m.cls index (.cls cA) = vm₁ at hg₁ hwarm₁ hready₁
  have hal : s.vm.Alike vm₁ := hwarm₁.alike
  obtain ⟨kA₁, hkA₁, heA⟩ := hal.2.2 _ _ hkA
  obtain ⟨kC₁, hkC₁, heC⟩ := hal.2.2 _ _ hkC
  have hkindA₁ : kA₁.kind = .array comp' (.array .boolean) := by rw [heA]; exact hkindA
  have hkindC₁ : kC₁.kind = .array cc .boolean := by rw [heC]; exact hkindC
  have X₁ := X.noted hwarm₁
  obtain ⟨hr1, hr2⟩ := X.roomAbove hcells hslots
  have XF := mz_stand X₁ cA comp' n.toNatClampNeg k.toNatClampNeg n.toNatClampNeg
  obtain ⟨f1, f2, f3, f4⟩ := mz_facts (T.setVm vm₁) cA comp' n.toNatClampNeg k.toNatClampNeg n.toNatClampNeg
  obtain ⟨t', a1, b1⟩ := kk cA comp' _ hnameA hcomp f1 f2 (fun j hj => mz_inner (T.setVm vm₁) cA comp' _ _ _ j hj) (fun a ha => mz_old (T.setVm vm₁) cA comp' _ _ ha _) (mz_st (T.setVm vm₁) cA comp' n.toNatClampNeg k.toNatClampNeg n.toNatClampNeg) rfl XF
  refine ⟨t', ?_, b1⟩
  have hl1 : ¬ n.toNatClampNeg > e.platform.arrayLengthLimit := by rw [Launch.admits_arrayLengthLimit X.admits]; omega
  have hh1 : ¬ n.toNatClampNeg * 4 > e.platform.maxHeapBytes := by rw [Launch.admits_maxHeapBytes X.admits]; omega
  have hl2 : ¬ k.toNatClampNeg > e.platform.arrayLengthLimit := by rw [Launch.admits_arrayLengthLimit X.admits]; omega
  have hh2 : ¬ k.toNatClampNeg * 1 > e.platform.maxHeapBytes := by rw [Launch.admits_maxHeapBytes X.admits]; omega
  jvm_step X.here [hexec, hdg]
  simp only [multianewarray.sem, wp_bind', Jvm.W.resolveClassAt_links (State.method?_setTop (F0 m pc ls (.int k :: .int n :: rest)) X.here.top) hg₁]
  rw [Jvm.W.popN, if_neg (by decide)]
  refine ⟨F0 m pc ls (.int k :: .int n :: rest), State.topJava?_setTop' (s := T.setVm vm₁) (F0 m pc ls (.int k :: .int n :: rest)) X.here.top, [.int n, .int k], rest, rfl, rfl, ?_⟩
  simp only [List.mapM_cons, List.mapM_nil, wp_bind', wp_pure']
  refine mz_make (k := kA₁) (kc := kC₁) (c1 := comp') (cc := cc) hkA₁ hkindA₁ hkC₁ hkindC₁ hn hk hl1 hh1 hl2 hh2 (by show T.heap.size + 1 + _ ≤ _; omega) (by show T.slotsUsed + _ + _ ≤ _; omega) (fun d' acts' => ?_)
  have eS : ((T.setTop (F0 m pc ls (.int k :: .int n :: rest))).setVm vm₁).setTop { F0 m pc ls (.int k :: .int n :: rest) with stack := rest } = (T.setVm vm₁).setTop { F0 m pc ls (.int k :: .int n :: rest) with stack := rest } := by
    show ((T.setVm vm₁).setTop _).setTop _ = _
    rw [State.setTop_setTop]
  rw [eS, mz_setTop]
  simp only [wp_bind', Jvm.W.mark, Jvm.W.pushRef, State.topJava?_setTop' _ XF.here.top, Option.some.injEq, exists_eq_left', State.setTop_setTop, State.heap_setTop]
  intro acts
  simp [jvm, XF.here.top]
  exact a1
end
/-- the cells that it makes -/
def mz_ws (cy : Nat → ClassId) (q N M : Nat) : va_W := (q, .inl (cy 8, N, .inr (.inr (.inr (.inr (fun j => some (q + 1 + j))))))) :: (List.range N).map (fun j => (q + 1 + j, .inl (cy 3, M, .inl (fun _ => 0))))
theorem mz_ws_at (cy : Nat → ClassId) (q N M : Nat) : ∀ (i : Nat) (x : Nat × va_E), (mz_ws cy q N M)[i]? = some x → i < N + 1 ∧ x.1 = q + i ∧ ((i = 0 ∧ x.2 = .inl (cy 8, N, .inr (.inr (.inr (.inr (fun j => some (q + 1 + j))))))) ∨ (∃ j, i = j + 1 ∧ j < N ∧ x.2 = .inl (cy 3, M, .inl (fun _ => 0)))) := by
  intro i x h
  unfold mz_ws at h
  match i, h with
  | 0, h =>
    cases h
    exact ⟨by omega, rfl, Or.inl ⟨rfl, rfl⟩⟩
  | i + 1, h =>
    rw [List.getElem?_cons_succ, List.getElem?_map] at h
    by_cases hi : i < N
    · rw [List.getElem?_range hi] at h
      cases h
      exact ⟨by omega, by show q + 1 + i = q + (i + 1); omega, Or.inr ⟨i, rfl, hi, rfl⟩⟩
    · rw [List.getElem?_eq_none (by simp; omega)] at h
      cases h
theorem n_multi_mz {K : Kt} {D : va_G} {cy : Nat → ClassId} {cc : ByteArray} {own : String} {A : Nat → Prop} {fr lo mc ms ce sl : Nat} {ws : va_W} {L : List (Nat × Value)} {rest : List Value} (C : Nx K D cy cc own A fr lo mc ms) (pc : Nat) {idx N M : Nat} {n k : Int32} (h1 : Cond.classLink own idx "[[Z" ∈ gw_tbl) (h2 : Cond.arrayClass .boolean ∈ gw_tbl) (hn : ¬ n < 0) (hk : ¬ k < 0) (hN : n.toNatClampNeg = N) (hM : k.toNatClampNeg = M) (hb1 : N * 4 ≤ 536870912) (hb2 : M * 1 ≤ 536870912) (hce : ce + (1 + N) ≤ mc) (hsl : sl + (N + N * M) ≤ ms) (d : decode cc pc = .ok (.multianewarray idx 2, 4)) (kk : ∀ q, Gn K D A (ws ++ mz_ws cy q N M) (ce + 1 + N) (sl + N + N * M) (pc + 4) L (.ref q :: rest)) : Gn K D A ws ce sl pc L (.int k :: .int n :: rest) := by
  obtain ⟨p, l, e, R, s, m, args, below, meth, c, nL, Q, ce0, sl0⟩ := K
  obtain ⟨hx, hb, hml, hown, hts, hK, hlk, hfr, hlo, hmc, hms, hA, hNW⟩ := C
  intro H locs ls hP hD hS hl
  subst hN; subst hM
  refine mz_W hx hb hown (hts _ h1) hNW.2.2.2.2.2 (hts _ h2) d hn hk hb1 hb2 (Nat.le_trans hce hmc) (Nat.le_trans hsl hms) (fun cA c1 H1 f1 f2 z1 e1 e2 o1 => ?_)
  have ec : cA = cy 8 := Option.some.inj (f1.symm.trans (hK.2 8 _ rfl).2)
  have ec1 : c1 = cy 3 := Option.some.inj (f2.symm.trans (hK.2 3 _ rfl).2)
  subst ec; subst ec1
  have hq : ∀ (j : Nat) (x : Nat × va_E), ws[j]? = some x → x.1 < H.size := fun j x hx => (hP j x hx).lt
  have hw := mz_ws_at cy H.size n.toNatClampNeg k.toNatClampNeg
  refine kk H.size H1 _ ls (va_P.app (fun j x hx => (hP j x hx).kept (o1 x.1 (hq j x hx))) ?_) ?_ ?_ hl
  · intro i x hx
    obtain ⟨hi, ha, h | ⟨j, hj, hj2, h⟩⟩ := hw i x hx
    · obtain ⟨h0, h⟩ := h
      obtain ⟨x1, x2⟩ := x
      subst h; subst h0
      have ha : x1 = H.size := ha
      subst ha
      rw [mu_arr] at e1
      exact e1
    · obtain ⟨x1, x2⟩ := x
      subst h; subst hj
      have ha : x1 = H.size + 1 + j := by have : x1 = H.size + (j + 1) := ha; omega
      subst ha
      exact e2 j hj2
  · refine va_D.app hD ⟨fun i j x y h1 h2 e => ?_, fun i x hx => ?_⟩ (fun i j x y h1 h2 e => ?_)
    · have a1 := (hw i x h1).2.1
      have a2 := (hw j y h2).2.1
      have e2 : x.1 = y.1 := e
      omega
    · refine hA _ ?_
      have a1 := (hw i x hx).2.1
      have := hS.1
      omega
    · have a1 := hq i x h1
      have a2 := (hw j y h2).2.1
      have e2 : x.1 = y.1 := e
      omega
  · refine ⟨by rw [z1]; have := hS.1; omega, fun a h1 h2 => by rw [o1 a (Nat.lt_of_lt_of_le h1 hS.1)]; exact hS.2.1 a h1 h2, fun q hq => ?_⟩
    rcases List.mem_append.mp hq with h | h
    · exact hS.2.2 q h
    · obtain ⟨j, -, rfl⟩ := List.mem_map.mp h
      exact hA _ hS.1
