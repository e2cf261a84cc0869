/-! new T[n][m] (the rows up to END are the printed names' starting text), and more rows -/
/-! ===== BEGIN new T[n][m]: the outer array a place, the inner ones among the pooled ===== -/
/-- f, but v at every address of l -/
def vr_up {α : Type} (f : Nat → α) (l : List Nat) (v : α) : Nat → α := fun a => if a ∈ l then v else f a
theorem vr_up_in {α : Type} {f : Nat → α} {l : List Nat} {v : α} {a : Nat} (h : a ∈ l) : vr_up f l v a = v := if_pos h
theorem vr_up_ne {α : Type} {f : Nat → α} {l : List Nat} {v : α} {a : Nat} (h : a ∉ l) : vr_up f l v a = f a := if_neg h
theorem vr_rows {L l : List Nat} {f : Nat → va_E} {e : va_E} (h : ∀ a, a ∈ l → a ∉ L) : va_pl L f ++ l.map (fun a => (a, e)) = va_pl (L ++ l) (vr_up f l e) := by
  unfold va_pl
  rw [List.map_append]
  congr 1
  · apply List.map_congr_left
    intro a ha
    rw [vr_up_ne (fun q => h a q ha)]
  · apply List.map_congr_left
    intro a ha
    rw [vr_up_in ha]
theorem vr_lay {X rows : va_W} {x : Nat × va_E} {pl : va_W} {D : va_G} {cl : List vw_C} {H : Heap} (hP : va_P D cl (((X ++ pl) ++ [x]) ++ rows) H) : va_P D cl ((X ++ [x]) ++ (pl ++ rows)) H := by
  rw [List.append_assoc (X ++ pl)] at hP
  have h := va_P.swap hP
  rw [← List.append_assoc X] at h
  have h2 := va_P.swap h
  rw [List.append_assoc (X ++ [x])] at h2
  exact h2
theorem vr_layD {X rows : va_W} {x : Nat × va_E} {pl : va_W} {A : Nat → Prop} (hD : va_D A (((X ++ pl) ++ [x]) ++ rows)) : va_D A ((X ++ [x]) ++ (pl ++ rows)) := by
  rw [List.append_assoc (X ++ pl)] at hD
  have h := va_D.swap hD
  rw [← List.append_assoc X] at h
  have h2 := va_D.swap h
  rw [List.append_assoc (X ++ [x])] at h2
  exact h2
theorem vr_outer (c : ClassId) (N h0 : Nat) : ∀ i : Nat, Jvm.Free.Multi.outerC c N h0 i = arrV c N (fun j => va_rf (if j < i then some (h0 + 1 + j) else none))
  | 0 => by
    show ({ cls := c, slots := Array.replicate N .null, vm := .none } : Cell) = _
    rw [arrV_new]
    refine congrArg (arrV c N) (funext fun j => ?_)
    simp [va_rf]
  | i + 1 => by
    show (Jvm.Free.Multi.outerC c N h0 i).setSlot i (.ref (h0 + 1 + i)) = _
    rw [vr_outer c N h0 i, arrV_store]
    refine congrArg (arrV c N) (funext fun j => ?_)
    by_cases e : j = i
    · subst e
      simp [updV, va_rf]
    · by_cases h : j < i
      · simp [updV, e, h, Nat.lt_succ_of_lt h]
      · simp [updV, e, h, show ¬ j < i + 1 by omega]
section VGM
variable {p : Program} {l : Launch} {e : Env} {R : Room} {s : State} {m : MethodId} {args : Array Value} {below : List Frame} {meth : Method} {c : Code} {H : Heap} {locs : List Loc} {cells slots : Nat} {Q : State → Prop}
variable {cc : ByteArray} {pc : Nat} {ls : Array Slot} {rest : List Value} {D : va_G} {cl : List vw_C} {A : Nat → Prop} {a : Nat} {tys : List (ClassId × FieldType)} {ws : va_W} {H0 : Heap}
theorem va_mna {X : va_W} {L : List Nat} {f : Nat → va_E} {cc : ByteArray} (hexec : p.tables.exec = Jvm.exec) (hb : c.code = cc) {own : String} {index : Nat} {ty : FieldType} {cy : ClassId} (hown : s.vm.findClass own = some m.cls) (hclink : (Cond.classLink own index ("[" ++ (FieldType.array ty).toString)).before args s = true) (hover : va_AOT ty s) (harr : (Cond.arrayClass ty).before args s = true) (hcy : s.vm.findClass (FieldType.array ty).toString = some cy)
    (hK : va_K D cl tys s) (hP : va_P D cl (X ++ va_pl L f) H) (hD : va_D A (X ++ va_pl L f)) (hS : va_S A H0 H locs) (hA : ∀ q, H0.size ≤ q → A q) {n k : Int32} {N' K' : Nat} {z : vp_A} (hn : ¬ n < 0) (hk : ¬ k < 0) (hN : n.toNatClampNeg = N') (hM : k.toNatClampNeg = K')
    (hb1 : N' * 4 ≤ 536870912) (hb2 : K' * componentBytes ty ≤ 536870912) (hb3 : K' ≤ 536870912) (hdf : fits ty (defaultValue ty) = true) (hdd : (defaultValue ty).isDefault = true) (hcells : cells + (1 + N') ≤ R.cells) (hslots : slots + (N' + N' * K') ≤ R.slots) (hz : ∀ c : ClassId, Jvm.Free.Multi.innerC c K' (defaultValue ty) = vp_cell c z) (hdg : decode cc pc = .ok (.multianewarray index 2, 4))
    (kk : ∀ (q : Nat) (r : Nat → Nat) (cA : ClassId) (H1 : Heap), (∀ i j : Nat, i < N' → j < N' → r i = r j → i = j) → (∀ i : Nat, i < N' → r i ∉ L) → va_K D cl (tys ++ [(cA, .array ty)]) s →
      va_P D cl ((X ++ [(q, .inl (cA, N', .inr (.inr (.inr (.inr (fun i => if i < N' then some (r i) else none))))))]) ++ va_pl (L ++ (List.range N').map r) (vr_up f ((List.range N').map r) (.inl (cy, z)))) H1 → va_D A ((X ++ [(q, .inl (cA, N', .inr (.inr (.inr (.inr (fun i => if i < N' then some (r i) else none))))))]) ++ va_pl (L ++ (List.range N').map r) (vr_up f ((List.range N').map r) (.inl (cy, z)))) → va_S A H0 H1 locs →
      W p l e R s m args below meth c H1 locs (cells + 1 + N') (slots + N' + N' * K') Q (F0 m (pc + 4) ls (.ref q :: rest))) : W p l e R s m args below meth c H locs cells slots Q (F0 m pc ls (.int k :: .int n :: rest)) := by
  subst hN
  subst hM
  intro T hT Xs
  obtain ⟨vm₁, cA, comp, -, fA, fC, hO, -, X', step⟩ := Xs.multianewarray2F hexec hown hclink (hover) harr (g := F0 m pc ls (.int k :: .int n :: rest)) rfl (by rw [hb]; exact hdg) rfl hn hk hb1 hb2 hb3 hdf hdd hcells hslots
  have ec : some cy = some comp := hcy.symm.trans fC
  cases ec
  generalize hF : Jvm.Free.Multi.fill (T.setVm vm₁) cA cy n.toNatClampNeg k.toNatClampNeg (defaultValue ty) n.toNatClampNeg = F at X' step
  have hTh : (T.setVm vm₁).heap = H := hT
  obtain ⟨f1, f2, -, -⟩ := Jvm.Free.Multi.fill_facts (T.setVm vm₁) cA cy n.toNatClampNeg k.toNatClampNeg (defaultValue ty) n.toNatClampNeg
  rw [hF, hTh] at f1 f2
  have hold : ∀ x : Nat, x < H.size → F.heap[x]? = H[x]? := fun x hx => by
    have := Jvm.Free.Multi.fill_old (T.setVm vm₁) cA cy n.toNatClampNeg k.toNatClampNeg (defaultValue ty) (a := x) (by rw [hTh]; exact hx) n.toNatClampNeg
    rw [hF, hTh] at this
    exact this
  have hrow : ∀ j : Nat, j < n.toNatClampNeg → F.heap[H.size + 1 + j]? = some (vp_cell cy z) := fun j hj => by
    have := Jvm.Free.Multi.fill_inner (T.setVm vm₁) cA cy n.toNatClampNeg k.toNatClampNeg (defaultValue ty) n.toNatClampNeg j hj
    rw [hF, hTh, hz] at this
    exact this
  have hout : Jvm.Free.Multi.outerC cA n.toNatClampNeg H.size n.toNatClampNeg = vp_cell cA (n.toNatClampNeg, .inr (.inr (.inr (.inr (fun i => if i < n.toNatClampNeg then some (H.size + 1 + i) else none))))) := by
    rw [vp_cell_q]
    exact vr_outer cA n.toNatClampNeg H.size n.toNatClampNeg
  rw [hout] at f2
  have hlt : ∀ a, a ∈ L → a < H.size := fun a ha => by
    obtain ⟨k9, hk9⟩ := va_pl_get (X := X) (f := f) ha
    exact (hP k9 _ hk9).lt
  have hnl : ∀ i : Nat, i < n.toNatClampNeg → H.size + 1 + i ∉ L := fun i _ h => by
    have := hlt _ h
    omega
  have hnm : ∀ a, a ∈ (List.range n.toNatClampNeg).map (fun i => H.size + 1 + i) → a ∉ L := fun a ha h => by
    obtain ⟨i, -, rfl⟩ := List.mem_map.mp ha
    have := hlt _ h
    omega
  have hP0 : va_P D cl (X ++ va_pl L f) F.heap := hP.kept (fun k9 x hx => hold x.1 ((hP k9 x hx).lt))
  have hP1 : va_P D cl ((X ++ va_pl L f) ++ [(H.size, .inl (cA, n.toNatClampNeg, .inr (.inr (.inr (.inr (fun i => if i < n.toNatClampNeg then some (H.size + 1 + i) else none))))))]) F.heap := hP0.app (fun k9 x hx => by
    have h0 : k9 < 1 := (List.getElem?_eq_some_iff.mp hx).1
    rw [show k9 = 0 by omega] at hx
    cases hx
    exact f2)
  have hP2 : va_P D cl (((X ++ va_pl L f) ++ [(H.size, .inl (cA, n.toNatClampNeg, .inr (.inr (.inr (.inr (fun i => if i < n.toNatClampNeg then some (H.size + 1 + i) else none))))))]) ++ ((List.range n.toNatClampNeg).map (fun i => H.size + 1 + i)).map (fun a => (a, .inl (cy, z)))) F.heap := hP1.app (fun k9 x hx => by
    obtain ⟨a, ha, rfl⟩ := List.mem_map.mp (List.mem_of_getElem? hx)
    obtain ⟨i, hi, rfl⟩ := List.mem_map.mp ha
    exact hrow i (List.mem_range.mp hi))
  have hD2 : va_D A (((X ++ va_pl L f) ++ [(H.size, .inl (cA, n.toNatClampNeg, .inr (.inr (.inr (.inr (fun i => if i < n.toNatClampNeg then some (H.size + 1 + i) else none))))))]) ++ ((List.range n.toNatClampNeg).map (fun i => H.size + 1 + i)).map (fun a => (a, .inl (cy, z)))) := by
    have hD1 := hD.push (e := .inl (cA, n.toNatClampNeg, .inr (.inr (.inr (.inr (fun i => if i < n.toNatClampNeg then some (H.size + 1 + i) else none)))))) hP rfl (hA _ hS.1)
    generalize hW1 : (X ++ va_pl L f) ++ [(H.size, .inl (cA, n.toNatClampNeg, .inr (.inr (.inr (.inr (fun i => if i < n.toNatClampNeg then some (H.size + 1 + i) else none))))))] = W1 at hD1 hP1 ⊢
    have hle : ∀ (k9 : Nat) (x : Nat × va_E), W1[k9]? = some x → x.1 ≤ H.size := fun k9 x hx => by
      rw [← hW1] at hx
      by_cases hl : k9 < (X ++ va_pl L f).length
      · rw [List.getElem?_append_left hl] at hx
        exact Nat.le_of_lt ((hP k9 x hx).lt)
      · rw [List.getElem?_append_right (by omega)] at hx
        have h0 : k9 - (X ++ va_pl L f).length < 1 := (List.getElem?_eq_some_iff.mp hx).1
        rw [show k9 - (X ++ va_pl L f).length = 0 by omega] at hx
        cases hx
        exact Nat.le_refl _
    have hr : ∀ (k9 : Nat) (x : Nat × va_E), (((List.range n.toNatClampNeg).map (fun i => H.size + 1 + i)).map (fun a => ((a, .inl (cy, z)) : Nat × va_E)))[k9]? = some x → x.1 = H.size + 1 + k9 := fun k9 x hx => by
      rw [List.getElem?_map, List.getElem?_map] at hx
      by_cases h9 : k9 < n.toNatClampNeg
      · rw [List.getElem?_range h9] at hx
        cases hx
        rfl
      · have hn0 : (List.range n.toNatClampNeg)[k9]? = none := List.getElem?_eq_none (by rw [List.length_range]; omega)
        rw [hn0] at hx
        cases hx
    refine ⟨fun i j x y hi hj hxy => ?_, fun k9 x hx => ?_⟩
    · by_cases h1 : i < W1.length <;> by_cases h2 : j < W1.length
      · rw [List.getElem?_append_left h1] at hi
        rw [List.getElem?_append_left h2] at hj
        exact hD1.1 i j x y hi hj hxy
      · rw [List.getElem?_append_left h1] at hi
        rw [List.getElem?_append_right (by omega)] at hj
        have := hle _ _ hi
        have := hr _ _ hj
        omega
      · rw [List.getElem?_append_right (by omega)] at hi
        rw [List.getElem?_append_left h2] at hj
        have := hle _ _ hj
        have := hr _ _ hi
        omega
      · rw [List.getElem?_append_right (by omega)] at hi hj
        have := hr _ _ hi
        have := hr _ _ hj
        omega
    · by_cases h1 : k9 < W1.length
      · rw [List.getElem?_append_left h1] at hx
        exact hD1.2 k9 x hx
      · rw [List.getElem?_append_right (by omega)] at hx
        have := hr _ _ hx
        exact hA _ (by have := hS.1; omega)
  have hAr : ArrOfT s cA (.array ty) := fun N9 z9 => by
    obtain ⟨-, k9, hk9, cm9, hkk9⟩ := (hO 0 0 0).1
    exact ⟨(fun q hq => by cases hq), k9, hk9, cm9, hkk9⟩
  have hK2 : va_K D cl (tys ++ [(cA, .array ty)]) s := ⟨hK.1, fun k9 x hx => by
    by_cases hl : k9 < tys.length
    · rw [List.getElem?_append_left hl] at hx
      exact hK.2 k9 x hx
    · rw [List.getElem?_append_right (by omega)] at hx
      have h0 : k9 - tys.length < 1 := (List.getElem?_eq_some_iff.mp hx).1
      rw [show k9 - tys.length = 0 by omega] at hx
      cases hx
      exact ⟨hAr, fA⟩⟩
  obtain ⟨t, a1, b1⟩ := kk H.size (fun i => H.size + 1 + i) cA F.heap (fun i j _ _ h => by have h9 : H.size + 1 + i = H.size + 1 + j := h; omega) hnl hK2 (by rw [← vr_rows hnm]; exact vr_lay hP2) (by rw [← vr_rows hnm]; exact vr_layD hD2) ⟨by rw [f1]; have := hS.1; omega, fun x h1 h2 => (hold x (Nat.lt_of_lt_of_le h1 hS.1)).trans (hS.2.1 x h1 h2), hS.2.2⟩ F rfl X'
  refine ⟨t, step t ?_, b1⟩
  have e : T.heap.size = H.size := by rw [hT]
  rw [e]
  exact a1
end VGM
/-! ===== END ===== -/
/-! more rows: arrays of arrays made, copies of arrays, ends, calls of the class's methods beside one's own cells -/
section GM
variable {K : Kt} {D : va_G} {cy : Nat → ClassId} {cc : ByteArray} {own : String} {A : Nat → Prop} {fr lo mc ms ce sl : Nat} {ws : va_W} {L : List (Nat × Value)} {rest : List Value}
theorem cy_at {t0 : Nat} {cA : ClassId} {ty : FieldType} {s : State} (hK : va_K D vwCl (T6 cy) s) (ht : (T6 cy)[t0]? = some (cA, ty)) (hpr : ∀ U : State, va_RA U cA ty → U.vm.findClass ("[" ++ ty.toString) = some cA) : s.vm.findClass ("[" ++ ty.toString) = some cA := hpr s (hK.2 t0 _ ht).2
/-- a new array of arrays, none in it -/
theorem g_anewA (C : Nx K D cy cc own A fr lo mc ms) (pc : Nat) {idx t0 : Nat} {t : FieldType} {cA0 : ClassId} {n : Int32} (N : Nat) (h1 : Cond.classLink own idx (FieldType.array t).toString ∈ gw_tbl) (ht : (T6 cy)[t0]? = some (cA0, .array t)) (hpr : ∀ U : State, va_RA U cA0 (.array t) → U.vm.findClass ("[" ++ (FieldType.array t).toString) = some cA0) (hZ : ∀ U : State, NW U → va_AOT t U) (hn : ¬ n < 0) (hNn : n.toNatClampNeg = N) (hby : N * 4 ≤ 536870912) (hce : ce + 1 ≤ mc) (hsl : sl + N ≤ ms) (d : decode cc pc = .ok (.anewarray idx, 3)) (k : ∀ q : Nat, Gn K D A (ws ++ [(q, .inl (cA0, N, .inr (.inr (.inr (.inr (fun _ => none))))))]) (ce + 1) (sl + N) (pc + 3) L (.ref q :: rest)) : Gn K D A ws ce sl pc L (.int n :: rest) := by
  subst hNn
  obtain ⟨p, l, e, R, s, m, args, below, meth, c, nL, Q, ce0, sl0⟩ := K
  obtain ⟨hx, hb, hml, hown, hts, hK, hlk, hfr, hlo, hmc, hms, hA, hN⟩ := C
  intro H locs ls hP hD hS hl
  refine W.anewA hx hb hown (hts _ h1) (hZ s hN) rfl d rfl hn hby (Nat.le_trans hce hmc) (Nat.le_trans hsl hms) fun cA kA comp f1 f2 f3 f4 => ?_
  cases (hpr s (hK.2 t0 _ ht).2).symm.trans f1
  generalize hH1 : H.push ({ cls := cA0, slots := Array.replicate n.toNatClampNeg .null, vm := .none } : Cell) = H1
  have z1 : H1.size = H.size + 1 := by rw [← hH1, Array.size_push]
  have e1 : H1[H.size]? = some (arrV cA0 n.toNatClampNeg (fun _ => .null)) := by rw [← hH1, Array.getElem?_push_size, ← arrV_new]
  have o1 : ∀ q : Nat, q < H.size → H1[q]? = H[q]? := fun q hq => by rw [← hH1, Array.getElem?_push, if_neg (Nat.ne_of_lt hq)]
  refine k H.size H1 locs ls ((hP.kept (fun j x hx => o1 x.1 (hP j x hx).lt)).app (fun j x hx => ?_)) (hD.push hP rfl (hA _ hS.1)) ⟨Nat.le_trans hS.1 (by omega), fun x h1 h2 => (o1 x (Nat.lt_of_lt_of_le h1 hS.1)).trans (hS.2.1 x h1 h2), hS.2.2⟩ hl
  have hz : j < 1 := (List.getElem?_eq_some_iff.mp hx).1
  rw [show j = 0 by omega] at hx
  cases hx
  show H1[H.size]? = some (vp_cell _ _)
  rw [vp_cell_q]
  exact e1
theorem inner_int (K' : Nat) (c : ClassId) : Jvm.Free.Multi.innerC c K' (defaultValue .int) = vp_cell c (K', .inl (fun _ => 0)) := by
  show ({ cls := c, slots := Array.replicate K' (defaultValue .int), vm := .none } : Cell) = arrV c K' (fun _ => .int 0)
  rw [arrV_new]
  rfl
theorem inner_bool (K' : Nat) (c : ClassId) : Jvm.Free.Multi.innerC c K' (defaultValue .boolean) = vp_cell c (K', .inl (fun _ => 0)) := by
  show ({ cls := c, slots := Array.replicate K' (defaultValue .boolean), vm := .none } : Cell) = arrV c K' (fun _ => .int 0)
  rw [arrV_new]
  rfl
/-- new T[N][M] -/
theorem g_multi (C : Nx K D cy cc own A fr lo mc ms) (pc : Nat) {idx t0 t1 : Nat} {t : FieldType} {cA0 cR : ClassId} {n k0 : Int32} (N M : Nat) (h1 : Cond.classLink own idx ("[" ++ (FieldType.array t).toString) ∈ gw_tbl) (h2 : Cond.arrayClass t ∈ gw_tbl) (ht : (T6 cy)[t0]? = some (cA0, .array t)) (hpr : ∀ U : State, va_RA U cA0 (.array t) → U.vm.findClass ("[" ++ (FieldType.array t).toString) = some cA0) (ht1 : (T6 cy)[t1]? = some (cR, t)) (hpr1 : ∀ U : State, va_RA U cR t → U.vm.findClass (FieldType.array t).toString = some cR) (hZ : ∀ U : State, NW U → va_AOT t U) (hz : ∀ c : ClassId, Jvm.Free.Multi.innerC c M (defaultValue t) = vp_cell c (M, .inl (fun _ => 0))) (hdf : fits t (defaultValue t) = true) (hdd : (defaultValue t).isDefault = true) (hn : ¬ n < 0) (hk : ¬ k0 < 0) (hNn : n.toNatClampNeg = N) (hMn : k0.toNatClampNeg = M) (hb1 : N * 4 ≤ 536870912) (hb2 : M * componentBytes t ≤ 536870912) (hb3 : M ≤ 536870912) (hce : ce + (1 + N) ≤ mc) (hsl : sl + (N + N * M) ≤ ms) (d : decode cc pc = .ok (.multianewarray idx 2, 4)) (k : ∀ (q : Nat) (r : Nat → Nat), Gn K D A (ws ++ ((q, .inl (cA0, N, .inr (.inr (.inr (.inr (fun i => ((List.range N).map (fun i => some (r i))).getD i none)))))) :: (List.range N).map (fun i => (r i, .inl (cR, M, .inl (fun _ => 0)))))) (ce + (1 + N)) (sl + (N + N * M)) (pc + 4) L (.ref q :: rest)) : Gn K D A ws ce sl pc L (.int k0 :: .int n :: rest) := by
  obtain ⟨p, l, e, R, s, m, args, below, meth, c, nL, Q, ce0, sl0⟩ := K
  obtain ⟨hx, hb, hml, hown, hts, hK, hlk, hfr, hlo, hmc, hms, hA, hN⟩ := C
  intro H locs ls hP hD hS hl
  refine va_mna (X := ws) (L := []) (f := fun _ => .inl (cR, M, .inl (fun _ => 0))) (z := (M, .inl (fun _ => 0))) hx hb hown (hts _ h1) (hZ s hN) (hts _ h2) (hpr1 s (hK.2 t1 _ ht1).2) hK (by rw [show va_pl [] (fun _ : Nat => (.inl (cR, M, .inl (fun _ => 0)) : va_E)) = [] from rfl, List.append_nil]; exact hP) (by rw [show va_pl [] (fun _ : Nat => (.inl (cR, M, .inl (fun _ => 0)) : va_E)) = [] from rfl, List.append_nil]; exact hD) hS hA hn hk hNn hMn hb1 hb2 hb3 hdf hdd (Nat.le_trans hce hmc) (Nat.le_trans hsl hms) hz d (fun q r cA H1 _ _ hK2 hP1 hD1 hS1 => ?_)
  have e0 : cA = cA0 := by
    have h3 := hpr s (hK.2 t0 _ ht).2
    have h4 : s.vm.findClass ("[" ++ (FieldType.array t).toString) = some cA := by
      have := (hK2.2 (T6 cy).length (cA, .array t) (by simp)).2
      exact this
    exact Option.some.inj (h4.symm.trans h3)
  subst e0
  have e2 : (ws ++ [(q, (.inl (cA, N, .inr (.inr (.inr (.inr (fun i => if i < N then some (r i) else none))))) : va_E))]) ++ va_pl ([] ++ (List.range N).map r) (vr_up (fun _ => (.inl (cR, M, .inl (fun _ => 0)) : va_E)) ((List.range N).map r) (.inl (cR, M, .inl (fun _ => 0)))) = ws ++ ((q, .inl (cA, N, .inr (.inr (.inr (.inr (fun i => if i < N then some (r i) else none)))))) :: (List.range N).map (fun i => (r i, .inl (cR, M, .inl (fun _ => 0))))) := by
    rw [List.append_assoc]
    congr 1
    show _ :: va_pl _ _ = _ :: _
    congr 1
    unfold va_pl
    rw [List.nil_append, List.map_map]
    apply List.map_congr_left
    intro a ha
    show (r a, vr_up _ _ _ (r a)) = _
    rw [vr_up_in (List.mem_map.mpr ⟨a, ha, rfl⟩)]
  have e3 : (fun i => if i < N then some (r i) else none) = (fun i => ((List.range N).map (fun i => some (r i))).getD i none) := by
    funext i
    rw [List.getD_eq_getElem?_getD, List.getElem?_map]
    by_cases hi : i < N
    · rw [if_pos hi, List.getElem?_range hi]; rfl
    · rw [if_neg hi, List.getElem?_eq_none (by rw [List.length_range]; omega)]; rfl
  rw [e2, e3] at hP1 hD1
  have := k q r H1 locs ls hP1 hD1 hS1 hl
  rw [show ce + 1 + N = ce + (1 + N) by omega, show sl + N + N * M = sl + (N + N * M) by omega]
  exact this
/-- a copy of an array of ints -/
theorem g_clone {wl : va_W} (C : Nx K D cy cc own A fr lo mc ms) (hW : Wo K D A ws wl) (pc : Nat) {idx a n : Nat} {f : Nat → Int32} (i : Nat) (hc : wl[i]? = some (a, .inl (cy 1, n, .inl f))) (h1 : Cond.methodLink own idx ⟨"[I", "clone", "()Ljava/lang/Object;"⟩ ∈ gw_tbl) (h2 : Cond.sameMethod "[I" "java/lang/Object" "clone" "()Ljava/lang/Object;" ∈ gw_tbl) (h3 : Cond.native ⟨"java/lang/Object", "clone", "()Ljava/lang/Object;"⟩ ∈ gw_tbl) (h4 : Cond.instanceMethod ⟨"java/lang/Object", "clone", "()Ljava/lang/Object;"⟩ ∈ gw_tbl) (h5 : Cond.selects "[I" ⟨"[I", "clone", "()Ljava/lang/Object;"⟩ ⟨"java/lang/Object", "clone", "()Ljava/lang/Object;"⟩ ∈ gw_tbl) (h6 : Cond.castable "[I" "java/lang/Cloneable" ∈ gw_tbl) (hf : 1 ≤ fr) (hw : (rest.map fun v => v.category).sum + 14 ≤ lo) (hce : ce + 1 ≤ mc) (hsl : sl + n ≤ ms) (d : decode cc pc = .ok (.invokevirtual idx, 3)) (k : ∀ q : Nat, Gn K D A (ws ++ [(q, .inl (cy 1, n, .inl f))]) (ce + 1) (sl + n) (pc + 3) L (.ref q :: rest)) : Gn K D A ws ce sl pc L (.ref a :: rest) := by
  obtain ⟨p, l, e, R, s, m, args, below, meth, c, nL, Q, ce0, sl0⟩ := K
  obtain ⟨hx, hb, hml, hown, hts, hK, hlk, hfr, hlo, hmc, hms, hA, hN⟩ := C
  intro H locs ls hP hD hS hl
  have hPw := hW H locs hP hS
  have hnm : s.vm.findClass "[I" = some (cy 1) := (hK.2 1 (cy 1, .int) rfl).2
  obtain ⟨c0, t0', f1, f2, f3⟩ := Cond.castable_spec (hts _ h6)
  cases hnm.symm.trans f1
  intro T hT X
  have hcellT : T.heap[a]? = some (arrV (cy 1) n (fun j => .int (f j))) := by rw [hT]; exact hPw i _ hc
  obtain ⟨-, kA, hkA, comp, hkind⟩ := State.isArrayOf_alike X.warmed.alike ((hK.2 1 (cy 1, .int) rfl).1 0 (fun _ => .null))
  obtain ⟨-, kS, hkS, compS, hkindS⟩ := (hK.2 1 (cy 1, .int) rfl).1 0 (fun _ => .null)
  have hsz : (arrV (cy 1) n (fun j => .int (f j))).slots.size = n := arrV_size _ _ _
  obtain ⟨vm', X', st⟩ := X.cloneArray hx hown (hts _ h1) (hts _ h2) (hts _ h3) (hts _ h4) (hts _ h5) (a := a) (cell := arrV (cy 1) n (fun j => .int (f j))) hcellT (fun k h => by cases h) (fun h => by cases h) hnm f2 f3
    (fun j v hv => by
      have hj : j < n := by
        have := (Array.getElem?_eq_some_iff.mp hv).1
        rw [hsz] at this
        exact this
      rw [arrV_read _ _ hj] at hv
      cases hv
      have hk' : T.vm.classes[cy 1]? = some kA := hkA
      show T.fitsSlot (cy 1) .none j (.int (f j)) = true
      simp [State.fitsSlot, State.slotType?, hk', hkind]
      rfl)
    (g := F0 m pc ls (.ref a :: rest)) rfl (by rw [hml]; exact hl.1.symm) rfl (by rw [hb]; exact d) (Nat.le_trans hf hfr) (by show 2 * 0 + _ + 14 ≤ _; omega) (Nat.le_trans hce hmc) (by rw [hsz]; exact Nat.le_trans hsl hms) (hloader := Vm.clonesLoader_of_array hkS hkindS)
  rw [hsz] at X'
  generalize hH1 : H.push (arrV (cy 1) n (fun j => .int (f j))) = H1
  have z1 : H1.size = H.size + 1 := by rw [← hH1, Array.size_push]
  have e1 : H1[H.size]? = some (arrV (cy 1) n (fun j => .int (f j))) := by rw [← hH1, Array.getElem?_push_size]
  have o1 : ∀ q : Nat, q < H.size → H1[q]? = H[q]? := fun q hq => by rw [← hH1, Array.getElem?_push, if_neg (Nat.ne_of_lt hq)]
  obtain ⟨t, b1, b2⟩ := k H.size H1 locs ls ((hP.kept (fun j x hx => o1 x.1 (hP j x hx).lt)).app (fun j x hx => by
      have hz : j < 1 := (List.getElem?_eq_some_iff.mp hx).1
      rw [show j = 0 by omega] at hx
      cases hx
      exact e1)) (hD.push hP rfl (hA _ hS.1)) ⟨Nat.le_trans hS.1 (by omega), fun y h1 h2 => (o1 y (Nat.lt_of_lt_of_le h1 hS.1)).trans (hS.2.1 y h1 h2), hS.2.2⟩ hl
    ((T.setVm vm').pushCell (arrV (cy 1) n (fun j => .int (f j)))) (by rw [← hH1, ← hT]; rfl) X'
  refine ⟨t, st t ?_, b2⟩
  rw [hT]
  exact b1
theorem g_castI {wl : va_W} (C : Nx K D cy cc own A fr lo mc ms) (pc : Nat) {idx a : Nat} {x : vp_A} (i : Nat) (hc : ws[i]? = some (a, .inl (cy 1, x))) (h1 : Cond.classLink own idx "[I" ∈ gw_tbl) (d : decode cc pc = .ok (.checkcast idx, 3)) (k : Gn K D A ws ce sl (pc + 3) L (.ref a :: rest)) : Gn K D A ws ce sl pc L (.ref a :: rest) := by
  obtain ⟨p, l, e, R, s, m, args, below, meth, c, nL, Q, ce0, sl0⟩ := K
  obtain ⟨hx, hb, hml, hown, hts, hK, hlk, hfr, hlo, hmc, hms, hA, hN⟩ := C
  intro H locs ls hP hD hS hl
  exact va_castA hx hb hown (hts _ h1) hP i hc (hK.2 1 (cy 1, .int) rfl).2 d (k H locs ls hP hD hS hl)
end GM
section GE
variable {K : Kt} {D : va_G} {cy : Nat → ClassId} {cc : ByteArray} {own : String} {A : Nat → Prop} {fr lo mc ms ce sl : Nat} {ws : va_W} {L : List (Nat × Value)} {rest : List Value}
theorem g_mmax (C : Nx K D cy cc own A fr lo mc ms) (pc : Nat) {idx : Nat} {x y : Int32} (hl1 : Cond.methodLink own idx Lib.Math.max.name ∈ gw_tbl) (hs1 : Cond.static Lib.Math.max.name ∈ gw_tbl) (hi1 : Cond.initialized "java/lang/Math" ∈ gw_tbl) (hc1 : Cond.code Lib.Math.max.name Lib.Math.max.code 2 (some .int) ∈ gw_tbl) (hf : 1 ≤ fr) (hw : (rest.map fun v => v.category).sum + 15 ≤ lo) (hce : ce ≤ mc) (hsl : sl ≤ ms) (d : decode cc pc = .ok (.invokestatic idx, 3)) (k : Gn K D A ws ce sl (pc + 3) L (.int (if x < y then y else x) :: rest)) : Gn K D A ws ce sl pc L (.int y :: .int x :: rest) := by
  obtain ⟨p, l, e, R, s, m, args, below, meth, c, nL, Q, ce0, sl0⟩ := K
  obtain ⟨hx, hb, hml, hown, hts, hK, hlk, hfr, hlo, hmc, hms, hA, hN⟩ := C
  intro H locs ls hP hD hS hl
  exact va_mmax hx hb (by rw [hml]; exact hl.1.symm) hown (hts _ hl1) (hts _ hs1) (hts _ hi1) (hts _ hc1) (Nat.le_trans hf hfr) (by omega) (Nat.le_trans hce hmc) (Nat.le_trans hsl hms) d (k H locs ls hP hD hS hl)
theorem g_mmin (C : Nx K D cy cc own A fr lo mc ms) (pc : Nat) {idx : Nat} {x y : Int32} (hl1 : Cond.methodLink own idx Lib.Math.min.name ∈ gw_tbl) (hs1 : Cond.static Lib.Math.min.name ∈ gw_tbl) (hi1 : Cond.initialized "java/lang/Math" ∈ gw_tbl) (hc1 : Cond.code Lib.Math.min.name Lib.Math.min.code 2 (some .int) ∈ gw_tbl) (hf : 1 ≤ fr) (hw : (rest.map fun v => v.category).sum + 15 ≤ lo) (hce : ce ≤ mc) (hsl : sl ≤ ms) (d : decode cc pc = .ok (.invokestatic idx, 3)) (k : Gn K D A ws ce sl (pc + 3) L (.int (if y < x then y else x) :: rest)) : Gn K D A ws ce sl pc L (.int y :: .int x :: rest) := by
  obtain ⟨p, l, e, R, s, m, args, below, meth, c, nL, Q, ce0, sl0⟩ := K
  obtain ⟨hx, hb, hml, hown, hts, hK, hlk, hfr, hlo, hmc, hms, hA, hN⟩ := C
  intro H locs ls hP hD hS hl
  exact va_mmin hx hb (by rw [hml]; exact hl.1.symm) hown (hts _ hl1) (hts _ hs1) (hts _ hi1) (hts _ hc1) (Nat.le_trans hf hfr) (by omega) (Nat.le_trans hce hmc) (Nat.le_trans hsl hms) d (k H locs ls hP hD hS hl)
/-- what a method's end wants: the answer, and the list that is left -/
def Re (K : Kt) (ret : Option FieldType) (A : Nat → Prop) (mc ms : Nat) (Po : Option Value → Heap → Prop) : Prop :=
  match K with
  | (_, _, _, _, s, _, args, below, meth, _, _, Q, _, _) => Q = MQ below (fun _ st oc t => (∃ rv, oc = .returned rv ∧ Po rv t.heap) ∧ va_F A st t) args s mc ms A ∧ meth.sig.returnType = ret
theorem g_iret {Po : Option Value → Heap → Prop} {r : Int32} (C : Nx K D cy cc own A fr lo mc ms) (R0 : Re K (some .int) A mc ms Po) (hce : ce ≤ mc) (hsl : sl ≤ ms) (pc : Nat) (d : decode cc pc = .ok (.ireturn, 1)) (h : ∀ H, va_P D vwCl ws H → va_D A ws → Po (some (.int r)) H) : Gn K D A ws ce sl pc L [.int r] := by
  obtain ⟨p, l, e, R, s, m, args, below, meth, c, nL, Q, ce0, sl0⟩ := K
  obtain ⟨hx, hb, hml, hown, hts, hK, hlk, hfr, hlo, hmc, hms, hA, hN⟩ := C
  obtain ⟨rfl, hr⟩ := R0
  intro H locs ls hP hD hS hl
  refine W.widen hce hsl ?_
  exact W.iret hx hb hr (fun t ht hW => ⟨⟨_, rfl, by rw [ht]; exact h H hP hD⟩, hS.F ht⟩) hS.2.2 d hlk
theorem g_zret {Po : Option Value → Heap → Prop} {r : Int32} (C : Nx K D cy cc own A fr lo mc ms) (R0 : Re K (some .boolean) A mc ms Po) (hz : narrow .boolean (.int r) = .int r) (hce : ce ≤ mc) (hsl : sl ≤ ms) (pc : Nat) (d : decode cc pc = .ok (.ireturn, 1)) (h : ∀ H, va_P D vwCl ws H → va_D A ws → Po (some (.int r)) H) : Gn K D A ws ce sl pc L [.int r] := by
  obtain ⟨p, l, e, R, s, m, args, below, meth, c, nL, Q, ce0, sl0⟩ := K
  obtain ⟨hx, hb, hml, hown, hts, hK, hlk, hfr, hlo, hmc, hms, hA, hN⟩ := C
  obtain ⟨rfl, hr⟩ := R0
  intro H locs ls hP hD hS hl
  refine W.widen hce hsl ?_
  exact W.zret hx hb hr hz (fun t ht hW => ⟨⟨_, rfl, by rw [ht]; exact h H hP hD⟩, hS.F ht⟩) hS.2.2 d hlk
theorem g_aret {Po : Option Value → Heap → Prop} {q : Nat} {rt : FieldType} (C : Nx K D cy cc own A fr lo mc ms) (R0 : Re K (some rt) A mc ms Po) (hrt : (∃ n, rt = .object n) ∨ ∃ t, rt = .array t) (hce : ce ≤ mc) (hsl : sl ≤ ms) (pc : Nat) (d : decode cc pc = .ok (.areturn, 1)) (h : ∀ H, va_P D vwCl ws H → va_D A ws → Po (some (.ref q)) H) : Gn K D A ws ce sl pc L [.ref q] := by
  obtain ⟨p, l, e, R, s, m, args, below, meth, c, nL, Q, ce0, sl0⟩ := K
  obtain ⟨hx, hb, hml, hown, hts, hK, hlk, hfr, hlo, hmc, hms, hA, hN⟩ := C
  obtain ⟨rfl, hr⟩ := R0
  intro H locs ls hP hD hS hl
  refine W.widen hce hsl ?_
  exact W.aret hx hb hr hrt (Or.inr ⟨_, rfl⟩) (fun t ht hW => ⟨⟨_, rfl, by rw [ht]; exact h H hP hD⟩, hS.F ht⟩) hS.2.2 d hlk
end GE
/-- what a method that only asks has for its end -/
abbrev PoQ (D : va_G) (sz : Nat) (Rp : Option Value → va_W → Prop) : Option Value → Heap → Prop := fun rv H => ∃ nl, Rp rv nl ∧ va_P D vwCl nl H ∧ va_D (fun q => sz ≤ q) nl
def Ks (K : Kt) : State := K.2.2.2.2.1
def Kn (K : Kt) : Nat := K.2.2.2.2.2.2.2.2.2.2.1
/-- a contract of a method that only asks, out of a walk of its body -/
theorem Cq_intro {l : Launch} {D : va_G} {cy : Nat → ClassId} {y : MethodName} {b : ByteArray} {n : Nat} {ret : Option FieldType} {fr lo mc ms : Nat} {As : List Value} {wl : va_W} {Rp : Option Value → va_W → Prop} {own : String} (hy : plainName y.cls = true) (hyc : y.cls = own) (hsz : (lg_sl As).length ≤ n) (L0 : List (Nat × Value)) (hL : lv_args 0 As = L0)
    (h : ∀ K : Kt, Kl K = l → Kn K = n → Nx K D cy b own (fun q => (Ks K).heap.size ≤ q) fr lo mc ms → Wc K D (fun q => (Ks K).heap.size ≤ q) wl → Re K ret (fun q => (Ks K).heap.size ≤ q) mc ms (PoQ D (Ks K).heap.size Rp) → Gn K D (fun q => (Ks K).heap.size ≤ q) [] 0 0 0 L0 []) : Cq l D cy y b n ret fr lo mc ms As wl Rp := by
  intro sz
  refine Met.ofW (cc := b) (maxL := n) (ret := ret) hy rfl ?_
  intro p e s m args below meth c s₁ B hml hv
  obtain ⟨rfl, hsz2, hK, hN, hP⟩ := hv
  subst hsz2
  have hts := atoms_spec (ws := Cond.code y b n ret :: gw_tbl) B.pre
  have hown : s.vm.findClass own = some m.cls := by rw [← hyc]; exact findClass_of_methodNamed B.named
  have hl := lv_entry As (n := n) hsz
  rw [hL] at hl
  have g := h (p, l, e, (headSpec (Cond.code y b n ret :: gw_tbl) { frames := fr, cells := mc, slots := ms, locals := lo }).room, s, m, As.toArray, below, meth, c, n, MQ below (fun _ st oc t => (∃ rv, oc = .returned rv ∧ PoQ D s.heap.size Rp rv t.heap) ∧ va_F (fun q => s.heap.size ≤ q) st t) As.toArray s mc ms (fun q => s.heap.size ≤ q), 0, 0) rfl rfl ⟨B.exec, B.bytes, hml, hown, fun w hw => hts w (List.mem_cons_of_mem _ hw), hK, B.notSynchronized, Nat.le_refl _, Nat.le_refl _, Nat.le_refl _, Nat.le_refl _, fun q hq => hq, hN⟩ ⟨hP, fun j x hx => Nat.not_le.mpr (hP j x hx).lt⟩ ⟨rfl, B.returns⟩
  rw [lg_entry_eq]
  exact g s.heap [] _ (fun k q h => by simp at h) ⟨fun i j p q h => by simp at h, fun k q h => by simp at h⟩ va_S.rf hl
