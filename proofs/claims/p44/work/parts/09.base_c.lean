/-! the class's world -/
/-- classes and slots, addresses of the cells, array classes, the addresses of SIGNS, of its bytes, of WORDS -/
abbrev Ct_V : Type := va_G × (Nat → Nat) × (Nat → ClassId) × (Nat → Nat)
def cellsC_0 (ad : Nat → Nat) (cy : Nat → ClassId) : List ((Nat → Int32) → (Nat → Int64) → (Nat → Nat) → va_E) := [fun I _ R => .inr (8, [.ref (ad 1), .int (I 1), .int (I 2), .ref (ad 2), .ref (ad (R 4)), .ref (ad (R 5)), .ref (ad 28), .ref (ad 66), .ref (ad 64), .ref (ad 65), .ref (ad 108), .ref (ad 116), .ref (ad 124)]),
  fun I L _ => .inl (cy 0, 2000, .inl I),
  fun I _ R => .inr (3, [.ref (ad 6), .ref (ad 3), .ref (ad 4), .int (I 3), .ref (ad 5), .int (I 5), .ref (ad (R 6)), .int (I 7), .int (I 8), .int (I 9), .int (I 10)]),
  fun I L _ => .inl (cy 2, 12, .inr (.inl L)),
  fun I L _ => .inl (cy 1, 12, .inl I),
  fun I L _ => .inl (cy 1, 32, .inl I),
  fun I _ R => .inr (6, [.ref (ad 7), .ref (ad 8), .ref (ad 9), .int (I 3), .int (I 4), .int (I 5)]),
  fun I L _ => .inl (cy 1, 402, .inl I),
  fun I L _ => .inl (cy 1, 402, .inl I),
  fun I L _ => .inl (cy 2, 402, .inr (.inl L)),
  fun I _ R => .inr (7, [.int (I 0), .int (I 1), .int (I 2), .int (I 3), .int (I 4), .ref (ad 11), .ref (ad 12), .ref (ad 13), .ref (ad 14), .ref (ad 15), .ref (ad 16), .ref (ad 17), .ref (ad 18), .int (I 13)]),
  fun I L _ => .inl (cy 1, 6, .inl I),
  fun I L _ => .inl (cy 3, 6, .inl I),
  fun I L _ => .inl (cy 1, 6, .inl I),
  fun I L _ => .inl (cy 1, 6, .inl I),
  fun I L _ => .inl (cy 1, 24, .inl I),
  fun I L _ => .inl (cy 1, 24, .inl I),
  fun I L _ => .inl (cy 1, 400, .inl I),
  fun I L _ => .inl (cy 1, 400, .inl I),
  fun I _ R => .inr (7, [.int (I 0), .int (I 1), .int (I 2), .int (I 3), .int (I 4), .ref (ad 20), .ref (ad 21), .ref (ad 22), .ref (ad 23), .ref (ad 24), .ref (ad 25), .ref (ad 26), .ref (ad 27), .int (I 13)]),
  fun I L _ => .inl (cy 1, 6, .inl I),
  fun I L _ => .inl (cy 3, 6, .inl I),
  fun I L _ => .inl (cy 1, 6, .inl I),
  fun I L _ => .inl (cy 1, 6, .inl I),
  fun I L _ => .inl (cy 1, 24, .inl I),
  fun I L _ => .inl (cy 1, 24, .inl I),
  fun I L _ => .inl (cy 1, 400, .inl I),
  fun I L _ => .inl (cy 1, 400, .inl I),
  fun I _ R => .inr (1, [.ref (ad 29), .ref (ad 30), .ref (ad 31), .ref (ad 32), .ref (ad 33), .ref (ad 34), .ref (ad 35), .ref (ad 36)]),
  fun I L _ => .inl (cy 2, 96, .inr (.inl L)),
  fun I L _ => .inl (cy 1, 60, .inl I),
  fun I L _ => .inl (cy 1, 60, .inl I)]
def cellsC_1 (ad : Nat → Nat) (cy : Nat → ClassId) : List ((Nat → Int32) → (Nat → Int64) → (Nat → Nat) → va_E) := [fun I L _ => .inl (cy 1, 60, .inl I),
  fun I L _ => .inl (cy 1, 60, .inl I),
  fun I L _ => .inl (cy 1, 60, .inl I),
  fun I L _ => .inl (cy 1, 60, .inl I),
  fun I L _ => .inl (cy 1, 60, .inl I),
  fun I _ R => .inr (1, [.ref (ad 38), .ref (ad 39), .ref (ad 40), .ref (ad 41), .ref (ad 42), .ref (ad 43), .ref (ad 44), .ref (ad 45)]),
  fun I L _ => .inl (cy 2, 96, .inr (.inl L)),
  fun I L _ => .inl (cy 1, 60, .inl I),
  fun I L _ => .inl (cy 1, 60, .inl I),
  fun I L _ => .inl (cy 1, 60, .inl I),
  fun I L _ => .inl (cy 1, 60, .inl I),
  fun I L _ => .inl (cy 1, 60, .inl I),
  fun I L _ => .inl (cy 1, 60, .inl I),
  fun I L _ => .inl (cy 1, 60, .inl I),
  fun I _ R => .inr (1, [.ref (ad 47), .ref (ad 48), .ref (ad 49), .ref (ad 50), .ref (ad 51), .ref (ad 52), .ref (ad 53), .ref (ad 54)]),
  fun I L _ => .inl (cy 2, 96, .inr (.inl L)),
  fun I L _ => .inl (cy 1, 60, .inl I),
  fun I L _ => .inl (cy 1, 60, .inl I),
  fun I L _ => .inl (cy 1, 60, .inl I),
  fun I L _ => .inl (cy 1, 60, .inl I),
  fun I L _ => .inl (cy 1, 60, .inl I),
  fun I L _ => .inl (cy 1, 60, .inl I),
  fun I L _ => .inl (cy 1, 60, .inl I),
  fun I _ R => .inr (1, [.ref (ad 56), .ref (ad 57), .ref (ad 58), .ref (ad 59), .ref (ad 60), .ref (ad 61), .ref (ad 62), .ref (ad 63)]),
  fun I L _ => .inl (cy 2, 96, .inr (.inl L)),
  fun I L _ => .inl (cy 1, 60, .inl I),
  fun I L _ => .inl (cy 1, 60, .inl I),
  fun I L _ => .inl (cy 1, 60, .inl I),
  fun I L _ => .inl (cy 1, 60, .inl I),
  fun I L _ => .inl (cy 1, 60, .inl I),
  fun I L _ => .inl (cy 1, 60, .inl I),
  fun I L _ => .inl (cy 1, 60, .inl I)]
def cellsC_2 (ad : Nat → Nat) (cy : Nat → ClassId) : List ((Nat → Int32) → (Nat → Int64) → (Nat → Nat) → va_E) := [fun _ _ _ => .inl (cy 4, 3, .inr (.inr (.inr (.inr (fun j => some (ad (37 + 9 * j))))))),
  fun I L _ => .inl (cy 3, 3, .inl I),
  fun I _ R => .inr (2, [.ref (ad 67), .int (I 1), .int (I 2)]),
  fun _ _ _ => .inl (cy 5, 40, .inr (.inr (.inr (.inr (fun j => some (ad (68 + j))))))),
  fun I L _ => .inl (cy 2, 96, .inr (.inl L)),
  fun I L _ => .inl (cy 2, 96, .inr (.inl L)),
  fun I L _ => .inl (cy 2, 96, .inr (.inl L)),
  fun I L _ => .inl (cy 2, 96, .inr (.inl L)),
  fun I L _ => .inl (cy 2, 96, .inr (.inl L)),
  fun I L _ => .inl (cy 2, 96, .inr (.inl L)),
  fun I L _ => .inl (cy 2, 96, .inr (.inl L)),
  fun I L _ => .inl (cy 2, 96, .inr (.inl L)),
  fun I L _ => .inl (cy 2, 96, .inr (.inl L)),
  fun I L _ => .inl (cy 2, 96, .inr (.inl L)),
  fun I L _ => .inl (cy 2, 96, .inr (.inl L)),
  fun I L _ => .inl (cy 2, 96, .inr (.inl L)),
  fun I L _ => .inl (cy 2, 96, .inr (.inl L)),
  fun I L _ => .inl (cy 2, 96, .inr (.inl L)),
  fun I L _ => .inl (cy 2, 96, .inr (.inl L)),
  fun I L _ => .inl (cy 2, 96, .inr (.inl L)),
  fun I L _ => .inl (cy 2, 96, .inr (.inl L)),
  fun I L _ => .inl (cy 2, 96, .inr (.inl L)),
  fun I L _ => .inl (cy 2, 96, .inr (.inl L)),
  fun I L _ => .inl (cy 2, 96, .inr (.inl L)),
  fun I L _ => .inl (cy 2, 96, .inr (.inl L)),
  fun I L _ => .inl (cy 2, 96, .inr (.inl L)),
  fun I L _ => .inl (cy 2, 96, .inr (.inl L)),
  fun I L _ => .inl (cy 2, 96, .inr (.inl L)),
  fun I L _ => .inl (cy 2, 96, .inr (.inl L)),
  fun I L _ => .inl (cy 2, 96, .inr (.inl L)),
  fun I L _ => .inl (cy 2, 96, .inr (.inl L)),
  fun I L _ => .inl (cy 2, 96, .inr (.inl L))]
def cellsC_3 (ad : Nat → Nat) (cy : Nat → ClassId) : List ((Nat → Int32) → (Nat → Int64) → (Nat → Nat) → va_E) := [fun I L _ => .inl (cy 2, 96, .inr (.inl L)),
  fun I L _ => .inl (cy 2, 96, .inr (.inl L)),
  fun I L _ => .inl (cy 2, 96, .inr (.inl L)),
  fun I L _ => .inl (cy 2, 96, .inr (.inl L)),
  fun I L _ => .inl (cy 2, 96, .inr (.inl L)),
  fun I L _ => .inl (cy 2, 96, .inr (.inl L)),
  fun I L _ => .inl (cy 2, 96, .inr (.inl L)),
  fun I L _ => .inl (cy 2, 96, .inr (.inl L)),
  fun I L _ => .inl (cy 2, 96, .inr (.inl L)),
  fun I L _ => .inl (cy 2, 96, .inr (.inl L)),
  fun I L _ => .inl (cy 2, 96, .inr (.inl L)),
  fun I L _ => .inl (cy 2, 96, .inr (.inl L)),
  fun I _ R => .inr (4, [.ref (ad 109), .ref (ad 111), .int (I 2), .ref (ad 112), .ref (ad 113), .ref (ad 114), .ref (ad 115), .int (I 7), .int (I 8)]),
  fun I _ R => .inr (0, [.ref (ad 110), .int (I 1), .int (I 2), .int (I 3)]),
  fun I L _ => .inl (cy 1, 32, .inl I),
  fun I L _ => .inl (cy 1, 60, .inl I),
  fun I L _ => .inl (cy 1, 60, .inl I),
  fun I L _ => .inl (cy 1, 60, .inl I),
  fun I L _ => .inl (cy 1, 366, .inl I),
  fun I L _ => .inl (cy 1, 6, .inl I),
  fun I _ R => .inr (4, [.ref (ad 117), .ref (ad 119), .int (I 2), .ref (ad 120), .ref (ad 121), .ref (ad 122), .ref (ad 123), .int (I 7), .int (I 8)]),
  fun I _ R => .inr (0, [.ref (ad 118), .int (I 1), .int (I 2), .int (I 3)]),
  fun I L _ => .inl (cy 1, 32, .inl I),
  fun I L _ => .inl (cy 1, 60, .inl I),
  fun I L _ => .inl (cy 1, 60, .inl I),
  fun I L _ => .inl (cy 1, 60, .inl I),
  fun I L _ => .inl (cy 1, 366, .inl I),
  fun I L _ => .inl (cy 1, 6, .inl I),
  fun I _ R => .inr (5, [.ref (ad 125), .ref (ad 126), .int (I 2), .int (I 3), .int (I 4), .int (I 5)]),
  fun I L _ => .inl (cy 2, 5, .inr (.inl L)),
  fun I L _ => .inl (cy 1, 5, .inl I)]
def cellsC (ad : Nat → Nat) (cy : Nat → ClassId) : List ((Nat → Int32) → (Nat → Int64) → (Nat → Nat) → va_E) := cellsC_0 ad cy ++ (cellsC_1 ad cy ++ (cellsC_2 ad cy ++ cellsC_3 ad cy))
def zoC (V : Ct_V) : Nat → Prop := fun q => ∃ i, i < 127 ∧ q = V.2.1 i
/-- SIGNS, a constant -/
def sgB : List Int32 := [59, 61, 43, 45, 42, 47, 60, 40, 41]
/-- WORDS, a static array -/
def wdL : List Int64 := [109330278475123, 31650994523828857, 1667591276, 1718579821, 474147546227, 1936028787, 1701606245, 1936024932, 120, 495873781104, 122537185339758]
def wdF (j : Nat) : Int64 := wdL.getD j 0
/-- what holds of a state besides: SIGNS is made, at V.2.2.2 0; COMPACT_STRINGS; WORDS lies at V.2.2.2 2 -/
def zxC (V : Ct_V) : State → Prop := fun U => vk_R "TentativeDesk$Tokens" 56 ";=+-*/<()" (V.2.2.2 0) U ∧ vk_S 1 [9] [sgB] (fun _ => V.2.2.2 0) (fun _ => V.2.2.2 1) (zoC V) U U.heap ∧ va_Z "java/lang/String" "COMPACT_STRINGS" "Z" (.int 1) (zoC V) U U.heap ∧ va_Z "TentativeDesk$Tokens" "WORDS" "[J" (.ref (V.2.2.2 2)) (zoC V) U U.heap ∧ va_T .long (V.2.2.2 2) 11 (fun j => .long (wdF j)) (zoC V) U U.heap
def Zc (V : Ct_V) : Zt := (V.1, V.2.1, V.2.2.1, 127, fun i => (cellsC V.2.1 V.2.2.1).getD i (fun _ _ _ => .inr (0, [])), zxC V)
theorem zc_ok {V : Ct_V} : zXok (Zc V) := by
  refine ⟨fun s U h hF hW => ?_, fun U g mk a h => ?_⟩
  · obtain ⟨h1, h2, h3, h4, h5⟩ := h
    have hq : ∀ a : Nat, a < s.heap.size → ¬ zoC V a → U.heap[a]? = s.heap[a]? := fun a h1 h2 => hF.2 a h1 h2
    have hv := hW.alike
    exact ⟨vk_R.warm hW h1, (vk_S.moved hv h2).kept hq, (va_Z.moved hv h3).kept hq, (va_Z.moved hv h4).kept hq, (va_T.moved hv h5).kept hq⟩
  · obtain ⟨h1, h2, h3, h4, h5⟩ := h
    have hv : U.vm.Alike (U.calling g mk a).vm := Vm.Alike.refl U.vm
    exact ⟨vk_R.same (u := U) (U := U.calling g mk a) rfl h1, vk_S.moved (U := U.calling g mk a) hv h2, va_Z.moved (U := U.calling g mk a) hv h3, va_Z.moved (U := U.calling g mk a) hv h4, va_T.moved (U := U.calling g mk a) hv h5⟩
theorem kc_0 (V : Ct_V) (σ : Wd) : zY (Zc V) 0 σ = .inr (8, [.ref (zA (Zc V) 1), .int (gI σ 0 1), .int (gI σ 0 2), .ref (zA (Zc V) 2), .ref (zA (Zc V) (gR σ 0 4)), .ref (zA (Zc V) (gR σ 0 5)), .ref (zA (Zc V) 28), .ref (zA (Zc V) 66), .ref (zA (Zc V) 64), .ref (zA (Zc V) 65), .ref (zA (Zc V) 108), .ref (zA (Zc V) 116), .ref (zA (Zc V) 124)]) := rfl
theorem kc_1 (V : Ct_V) (σ : Wd) : zY (Zc V) 1 σ = .inl (zC (Zc V) 0, 2000, .inl (σ.1 1)) := rfl
theorem kc_2 (V : Ct_V) (σ : Wd) : zY (Zc V) 2 σ = .inr (3, [.ref (zA (Zc V) 6), .ref (zA (Zc V) 3), .ref (zA (Zc V) 4), .int (gI σ 2 3), .ref (zA (Zc V) 5), .int (gI σ 2 5), .ref (zA (Zc V) (gR σ 2 6)), .int (gI σ 2 7), .int (gI σ 2 8), .int (gI σ 2 9), .int (gI σ 2 10)]) := rfl
theorem kc_3 (V : Ct_V) (σ : Wd) : zY (Zc V) 3 σ = .inl (zC (Zc V) 2, 12, .inr (.inl (σ.2.1 3))) := rfl
theorem kc_4 (V : Ct_V) (σ : Wd) : zY (Zc V) 4 σ = .inl (zC (Zc V) 1, 12, .inl (σ.1 4)) := rfl
theorem kc_5 (V : Ct_V) (σ : Wd) : zY (Zc V) 5 σ = .inl (zC (Zc V) 1, 32, .inl (σ.1 5)) := rfl
theorem kc_6 (V : Ct_V) (σ : Wd) : zY (Zc V) 6 σ = .inr (6, [.ref (zA (Zc V) 7), .ref (zA (Zc V) 8), .ref (zA (Zc V) 9), .int (gI σ 6 3), .int (gI σ 6 4), .int (gI σ 6 5)]) := rfl
theorem kc_7 (V : Ct_V) (σ : Wd) : zY (Zc V) 7 σ = .inl (zC (Zc V) 1, 402, .inl (σ.1 7)) := rfl
theorem kc_8 (V : Ct_V) (σ : Wd) : zY (Zc V) 8 σ = .inl (zC (Zc V) 1, 402, .inl (σ.1 8)) := rfl
theorem kc_9 (V : Ct_V) (σ : Wd) : zY (Zc V) 9 σ = .inl (zC (Zc V) 2, 402, .inr (.inl (σ.2.1 9))) := rfl
theorem kc_28 (V : Ct_V) (σ : Wd) : zY (Zc V) 28 σ = .inr (1, [.ref (zA (Zc V) 29), .ref (zA (Zc V) 30), .ref (zA (Zc V) 31), .ref (zA (Zc V) 32), .ref (zA (Zc V) 33), .ref (zA (Zc V) 34), .ref (zA (Zc V) 35), .ref (zA (Zc V) 36)]) := rfl
theorem kc_29 (V : Ct_V) (σ : Wd) : zY (Zc V) 29 σ = .inl (zC (Zc V) 2, 96, .inr (.inl (σ.2.1 29))) := rfl
theorem kc_30 (V : Ct_V) (σ : Wd) : zY (Zc V) 30 σ = .inl (zC (Zc V) 1, 60, .inl (σ.1 30)) := rfl
theorem kc_31 (V : Ct_V) (σ : Wd) : zY (Zc V) 31 σ = .inl (zC (Zc V) 1, 60, .inl (σ.1 31)) := rfl
theorem kc_32 (V : Ct_V) (σ : Wd) : zY (Zc V) 32 σ = .inl (zC (Zc V) 1, 60, .inl (σ.1 32)) := rfl
theorem kc_33 (V : Ct_V) (σ : Wd) : zY (Zc V) 33 σ = .inl (zC (Zc V) 1, 60, .inl (σ.1 33)) := rfl
theorem kc_34 (V : Ct_V) (σ : Wd) : zY (Zc V) 34 σ = .inl (zC (Zc V) 1, 60, .inl (σ.1 34)) := rfl
theorem kc_35 (V : Ct_V) (σ : Wd) : zY (Zc V) 35 σ = .inl (zC (Zc V) 1, 60, .inl (σ.1 35)) := rfl
theorem kc_36 (V : Ct_V) (σ : Wd) : zY (Zc V) 36 σ = .inl (zC (Zc V) 1, 60, .inl (σ.1 36)) := rfl
theorem kc_64 (V : Ct_V) (σ : Wd) : zY (Zc V) 64 σ = .inl (zC (Zc V) 4, 3, .inr (.inr (.inr (.inr (fun j => some (zA (Zc V) (37 + 9 * j))))))) := rfl
theorem kc_65 (V : Ct_V) (σ : Wd) : zY (Zc V) 65 σ = .inl (zC (Zc V) 3, 3, .inl (σ.1 65)) := rfl
theorem kc_66 (V : Ct_V) (σ : Wd) : zY (Zc V) 66 σ = .inr (2, [.ref (zA (Zc V) 67), .int (gI σ 66 1), .int (gI σ 66 2)]) := rfl
theorem kc_67 (V : Ct_V) (σ : Wd) : zY (Zc V) 67 σ = .inl (zC (Zc V) 5, 40, .inr (.inr (.inr (.inr (fun j => some (zA (Zc V) (68 + j))))))) := rfl
theorem kc_124 (V : Ct_V) (σ : Wd) : zY (Zc V) 124 σ = .inr (5, [.ref (zA (Zc V) 125), .ref (zA (Zc V) 126), .int (gI σ 124 2), .int (gI σ 124 3), .int (gI σ 124 4), .int (gI σ 124 5)]) := rfl
theorem kc_125 (V : Ct_V) (σ : Wd) : zY (Zc V) 125 σ = .inl (zC (Zc V) 2, 5, .inr (.inl (σ.2.1 125))) := rfl
theorem kc_126 (V : Ct_V) (σ : Wd) : zY (Zc V) 126 σ = .inl (zC (Zc V) 1, 5, .inl (σ.1 126)) := rfl
abbrev famT (g : Nat) : Prop := g = 10 ∨ g = 19
theorem kT_0 (V : Ct_V) {g : Nat} (h : famT g) (σ : Wd) : zY (Zc V) g σ = .inr (7, [.int (gI σ g 0), .int (gI σ g 1), .int (gI σ g 2), .int (gI σ g 3), .int (gI σ g 4), .ref (zA (Zc V) (g + 1)), .ref (zA (Zc V) (g + 2)), .ref (zA (Zc V) (g + 3)), .ref (zA (Zc V) (g + 4)), .ref (zA (Zc V) (g + 5)), .ref (zA (Zc V) (g + 6)), .ref (zA (Zc V) (g + 7)), .ref (zA (Zc V) (g + 8)), .int (gI σ g 13)]) := by rcases h with rfl | rfl <;> rfl
theorem ltT_0 {g : Nat} (h : famT g) {V : Ct_V} : g < zN (Zc V) := by show g < 127; omega
theorem kT_1 (V : Ct_V) {g : Nat} (h : famT g) (σ : Wd) : zY (Zc V) (g + 1) σ = .inl (zC (Zc V) 1, 6, .inl (σ.1 (g + 1))) := by rcases h with rfl | rfl <;> rfl
theorem ltT_1 {g : Nat} (h : famT g) {V : Ct_V} : g + 1 < zN (Zc V) := by show g + 1 < 127; omega
theorem kT_2 (V : Ct_V) {g : Nat} (h : famT g) (σ : Wd) : zY (Zc V) (g + 2) σ = .inl (zC (Zc V) 3, 6, .inl (σ.1 (g + 2))) := by rcases h with rfl | rfl <;> rfl
theorem ltT_2 {g : Nat} (h : famT g) {V : Ct_V} : g + 2 < zN (Zc V) := by show g + 2 < 127; omega
theorem kT_3 (V : Ct_V) {g : Nat} (h : famT g) (σ : Wd) : zY (Zc V) (g + 3) σ = .inl (zC (Zc V) 1, 6, .inl (σ.1 (g + 3))) := by rcases h with rfl | rfl <;> rfl
theorem ltT_3 {g : Nat} (h : famT g) {V : Ct_V} : g + 3 < zN (Zc V) := by show g + 3 < 127; omega
theorem kT_4 (V : Ct_V) {g : Nat} (h : famT g) (σ : Wd) : zY (Zc V) (g + 4) σ = .inl (zC (Zc V) 1, 6, .inl (σ.1 (g + 4))) := by rcases h with rfl | rfl <;> rfl
theorem ltT_4 {g : Nat} (h : famT g) {V : Ct_V} : g + 4 < zN (Zc V) := by show g + 4 < 127; omega
theorem kT_5 (V : Ct_V) {g : Nat} (h : famT g) (σ : Wd) : zY (Zc V) (g + 5) σ = .inl (zC (Zc V) 1, 24, .inl (σ.1 (g + 5))) := by rcases h with rfl | rfl <;> rfl
theorem ltT_5 {g : Nat} (h : famT g) {V : Ct_V} : g + 5 < zN (Zc V) := by show g + 5 < 127; omega
theorem kT_6 (V : Ct_V) {g : Nat} (h : famT g) (σ : Wd) : zY (Zc V) (g + 6) σ = .inl (zC (Zc V) 1, 24, .inl (σ.1 (g + 6))) := by rcases h with rfl | rfl <;> rfl
theorem ltT_6 {g : Nat} (h : famT g) {V : Ct_V} : g + 6 < zN (Zc V) := by show g + 6 < 127; omega
theorem kT_7 (V : Ct_V) {g : Nat} (h : famT g) (σ : Wd) : zY (Zc V) (g + 7) σ = .inl (zC (Zc V) 1, 400, .inl (σ.1 (g + 7))) := by rcases h with rfl | rfl <;> rfl
theorem ltT_7 {g : Nat} (h : famT g) {V : Ct_V} : g + 7 < zN (Zc V) := by show g + 7 < 127; omega
theorem kT_8 (V : Ct_V) {g : Nat} (h : famT g) (σ : Wd) : zY (Zc V) (g + 8) σ = .inl (zC (Zc V) 1, 400, .inl (σ.1 (g + 8))) := by rcases h with rfl | rfl <;> rfl
theorem ltT_8 {g : Nat} (h : famT g) {V : Ct_V} : g + 8 < zN (Zc V) := by show g + 8 < 127; omega
abbrev famG (g : Nat) : Prop := g = 28 ∨ g = 37 ∨ g = 46 ∨ g = 55
theorem kG_0 (V : Ct_V) {g : Nat} (h : famG g) (σ : Wd) : zY (Zc V) g σ = .inr (1, [.ref (zA (Zc V) (g + 1)), .ref (zA (Zc V) (g + 2)), .ref (zA (Zc V) (g + 3)), .ref (zA (Zc V) (g + 4)), .ref (zA (Zc V) (g + 5)), .ref (zA (Zc V) (g + 6)), .ref (zA (Zc V) (g + 7)), .ref (zA (Zc V) (g + 8))]) := by rcases h with rfl | rfl | rfl | rfl <;> rfl
theorem ltG_0 {g : Nat} (h : famG g) {V : Ct_V} : g < zN (Zc V) := by show g < 127; omega
theorem kG_1 (V : Ct_V) {g : Nat} (h : famG g) (σ : Wd) : zY (Zc V) (g + 1) σ = .inl (zC (Zc V) 2, 96, .inr (.inl (σ.2.1 (g + 1)))) := by rcases h with rfl | rfl | rfl | rfl <;> rfl
theorem ltG_1 {g : Nat} (h : famG g) {V : Ct_V} : g + 1 < zN (Zc V) := by show g + 1 < 127; omega
theorem kG_2 (V : Ct_V) {g : Nat} (h : famG g) (σ : Wd) : zY (Zc V) (g + 2) σ = .inl (zC (Zc V) 1, 60, .inl (σ.1 (g + 2))) := by rcases h with rfl | rfl | rfl | rfl <;> rfl
theorem ltG_2 {g : Nat} (h : famG g) {V : Ct_V} : g + 2 < zN (Zc V) := by show g + 2 < 127; omega
theorem kG_3 (V : Ct_V) {g : Nat} (h : famG g) (σ : Wd) : zY (Zc V) (g + 3) σ = .inl (zC (Zc V) 1, 60, .inl (σ.1 (g + 3))) := by rcases h with rfl | rfl | rfl | rfl <;> rfl
theorem ltG_3 {g : Nat} (h : famG g) {V : Ct_V} : g + 3 < zN (Zc V) := by show g + 3 < 127; omega
theorem kG_4 (V : Ct_V) {g : Nat} (h : famG g) (σ : Wd) : zY (Zc V) (g + 4) σ = .inl (zC (Zc V) 1, 60, .inl (σ.1 (g + 4))) := by rcases h with rfl | rfl | rfl | rfl <;> rfl
theorem ltG_4 {g : Nat} (h : famG g) {V : Ct_V} : g + 4 < zN (Zc V) := by show g + 4 < 127; omega
theorem kG_5 (V : Ct_V) {g : Nat} (h : famG g) (σ : Wd) : zY (Zc V) (g + 5) σ = .inl (zC (Zc V) 1, 60, .inl (σ.1 (g + 5))) := by rcases h with rfl | rfl | rfl | rfl <;> rfl
theorem ltG_5 {g : Nat} (h : famG g) {V : Ct_V} : g + 5 < zN (Zc V) := by show g + 5 < 127; omega
theorem kG_6 (V : Ct_V) {g : Nat} (h : famG g) (σ : Wd) : zY (Zc V) (g + 6) σ = .inl (zC (Zc V) 1, 60, .inl (σ.1 (g + 6))) := by rcases h with rfl | rfl | rfl | rfl <;> rfl
theorem ltG_6 {g : Nat} (h : famG g) {V : Ct_V} : g + 6 < zN (Zc V) := by show g + 6 < 127; omega
theorem kG_7 (V : Ct_V) {g : Nat} (h : famG g) (σ : Wd) : zY (Zc V) (g + 7) σ = .inl (zC (Zc V) 1, 60, .inl (σ.1 (g + 7))) := by rcases h with rfl | rfl | rfl | rfl <;> rfl
theorem ltG_7 {g : Nat} (h : famG g) {V : Ct_V} : g + 7 < zN (Zc V) := by show g + 7 < 127; omega
theorem kG_8 (V : Ct_V) {g : Nat} (h : famG g) (σ : Wd) : zY (Zc V) (g + 8) σ = .inl (zC (Zc V) 1, 60, .inl (σ.1 (g + 8))) := by rcases h with rfl | rfl | rfl | rfl <;> rfl
theorem ltG_8 {g : Nat} (h : famG g) {V : Ct_V} : g + 8 < zN (Zc V) := by show g + 8 < 127; omega
abbrev famP (g : Nat) : Prop := g = 108 ∨ g = 116
theorem kP_0 (V : Ct_V) {g : Nat} (h : famP g) (σ : Wd) : zY (Zc V) g σ = .inr (4, [.ref (zA (Zc V) (g + 1)), .ref (zA (Zc V) (g + 3)), .int (gI σ g 2), .ref (zA (Zc V) (g + 4)), .ref (zA (Zc V) (g + 5)), .ref (zA (Zc V) (g + 6)), .ref (zA (Zc V) (g + 7)), .int (gI σ g 7), .int (gI σ g 8)]) := by rcases h with rfl | rfl <;> rfl
theorem ltP_0 {g : Nat} (h : famP g) {V : Ct_V} : g < zN (Zc V) := by show g < 127; omega
theorem kP_3 (V : Ct_V) {g : Nat} (h : famP g) (σ : Wd) : zY (Zc V) (g + 3) σ = .inl (zC (Zc V) 1, 60, .inl (σ.1 (g + 3))) := by rcases h with rfl | rfl <;> rfl
theorem ltP_3 {g : Nat} (h : famP g) {V : Ct_V} : g + 3 < zN (Zc V) := by show g + 3 < 127; omega
theorem kP_4 (V : Ct_V) {g : Nat} (h : famP g) (σ : Wd) : zY (Zc V) (g + 4) σ = .inl (zC (Zc V) 1, 60, .inl (σ.1 (g + 4))) := by rcases h with rfl | rfl <;> rfl
theorem ltP_4 {g : Nat} (h : famP g) {V : Ct_V} : g + 4 < zN (Zc V) := by show g + 4 < 127; omega
theorem kP_5 (V : Ct_V) {g : Nat} (h : famP g) (σ : Wd) : zY (Zc V) (g + 5) σ = .inl (zC (Zc V) 1, 60, .inl (σ.1 (g + 5))) := by rcases h with rfl | rfl <;> rfl
theorem ltP_5 {g : Nat} (h : famP g) {V : Ct_V} : g + 5 < zN (Zc V) := by show g + 5 < 127; omega
theorem kP_6 (V : Ct_V) {g : Nat} (h : famP g) (σ : Wd) : zY (Zc V) (g + 6) σ = .inl (zC (Zc V) 1, 366, .inl (σ.1 (g + 6))) := by rcases h with rfl | rfl <;> rfl
theorem ltP_6 {g : Nat} (h : famP g) {V : Ct_V} : g + 6 < zN (Zc V) := by show g + 6 < 127; omega
theorem kP_7 (V : Ct_V) {g : Nat} (h : famP g) (σ : Wd) : zY (Zc V) (g + 7) σ = .inl (zC (Zc V) 1, 6, .inl (σ.1 (g + 7))) := by rcases h with rfl | rfl <;> rfl
theorem ltP_7 {g : Nat} (h : famP g) {V : Ct_V} : g + 7 < zN (Zc V) := by show g + 7 < 127; omega
abbrev famD (g : Nat) : Prop := g = 109 ∨ g = 117
theorem kD_0 (V : Ct_V) {g : Nat} (h : famD g) (σ : Wd) : zY (Zc V) g σ = .inr (0, [.ref (zA (Zc V) (g + 1)), .int (gI σ g 1), .int (gI σ g 2), .int (gI σ g 3)]) := by rcases h with rfl | rfl <;> rfl
theorem ltD_0 {g : Nat} (h : famD g) {V : Ct_V} : g < zN (Zc V) := by show g < 127; omega
theorem kD_1 (V : Ct_V) {g : Nat} (h : famD g) (σ : Wd) : zY (Zc V) (g + 1) σ = .inl (zC (Zc V) 1, 32, .inl (σ.1 (g + 1))) := by rcases h with rfl | rfl <;> rfl
theorem ltD_1 {g : Nat} (h : famD g) {V : Ct_V} : g + 1 < zN (Zc V) := by show g + 1 < 127; omega
theorem famD_of {g : Nat} (h : famP g) : famD (g + 1) := by show g + 1 = 109 ∨ g + 1 = 117; omega
theorem famG_sl {j : Int32} (h : ib j 3) : famG (37 + 9 * ix j) := by have h2 : ix j < 3 := Nat.not_le.mp (fun q => h (Or.inr q)); show 37 + 9 * ix j = 28 ∨ 37 + 9 * ix j = 37 ∨ 37 + 9 * ix j = 46 ∨ 37 + 9 * ix j = 55; omega
theorem kRow (V : Ct_V) {j : Int32} (h : ib j 40) (σ : Wd) : zY (Zc V) (68 + ix j) σ = .inl (zC (Zc V) 2, 96, .inr (.inl (σ.2.1 (68 + ix j)))) := by
  have h2 : ix j < 40 := Nat.not_le.mp (fun q => h (Or.inr q))
  have key : ∀ i, i < 40 → ∀ (ad : Nat → Nat) (cy : Nat → ClassId), (cellsC ad cy).getD (68 + i) (fun _ _ _ => .inr (0, [])) = (fun _ L _ => .inl (cy 2, 96, .inr (.inl L))) := by
    intro i hi ad cy
    match i, hi with
    | 0, _ => rfl
    | 1, _ => rfl
    | 2, _ => rfl
    | 3, _ => rfl
    | 4, _ => rfl
    | 5, _ => rfl
    | 6, _ => rfl
    | 7, _ => rfl
    | 8, _ => rfl
    | 9, _ => rfl
    | 10, _ => rfl
    | 11, _ => rfl
    | 12, _ => rfl
    | 13, _ => rfl
    | 14, _ => rfl
    | 15, _ => rfl
    | 16, _ => rfl
    | 17, _ => rfl
    | 18, _ => rfl
    | 19, _ => rfl
    | 20, _ => rfl
    | 21, _ => rfl
    | 22, _ => rfl
    | 23, _ => rfl
    | 24, _ => rfl
    | 25, _ => rfl
    | 26, _ => rfl
    | 27, _ => rfl
    | 28, _ => rfl
    | 29, _ => rfl
    | 30, _ => rfl
    | 31, _ => rfl
    | 32, _ => rfl
    | 33, _ => rfl
    | 34, _ => rfl
    | 35, _ => rfl
    | 36, _ => rfl
    | 37, _ => rfl
    | 38, _ => rfl
    | 39, _ => rfl
    | i + 40, hi => exact absurd hi (by omega)
  show (cellsC V.2.1 V.2.2.1).getD (68 + ix j) (fun _ _ _ => .inr (0, [])) (σ.1 (68 + ix j)) (σ.2.1 (68 + ix j)) (σ.2.2 (68 + ix j)) = _
  rw [key _ h2]
  rfl
theorem ltRow {j : Int32} (h : ib j 40) {V : Ct_V} : 68 + ix j < zN (Zc V) := by
  have h2 : ix j < 40 := Nat.not_le.mp (fun q => h (Or.inr q))
  show 68 + ix j < 127
  omega
theorem in_X8 : ∀ w ∈ u_ws RX8 TX8 13, w ∈ gw_tbl := (List.forall_mem_cons.mpr ⟨tw_370, (List.forall_mem_cons.mpr ⟨tw_372, (List.forall_mem_cons.mpr ⟨tw_374, (List.forall_mem_cons.mpr ⟨tw_376, (List.forall_mem_cons.mpr ⟨tw_378, (List.forall_mem_cons.mpr ⟨tw_380, (List.forall_mem_cons.mpr ⟨tw_382, (List.forall_mem_cons.mpr ⟨tw_384, (List.forall_mem_cons.mpr ⟨tw_386, (List.forall_mem_cons.mpr ⟨tw_388, (List.forall_mem_cons.mpr ⟨tw_390, (List.forall_mem_cons.mpr ⟨tw_392, (List.forall_mem_cons.mpr ⟨tw_394, (List.forall_mem_nil _)⟩)⟩)⟩)⟩)⟩)⟩)⟩)⟩)⟩)⟩)⟩)⟩)⟩)
theorem in_X3 : ∀ w ∈ u_ws RX3 TX3 11, w ∈ gw_tbl := (List.forall_mem_cons.mpr ⟨tw_187, (List.forall_mem_cons.mpr ⟨tw_189, (List.forall_mem_cons.mpr ⟨tw_191, (List.forall_mem_cons.mpr ⟨tw_193, (List.forall_mem_cons.mpr ⟨tw_195, (List.forall_mem_cons.mpr ⟨tw_197, (List.forall_mem_cons.mpr ⟨tw_199, (List.forall_mem_cons.mpr ⟨tw_201, (List.forall_mem_cons.mpr ⟨tw_203, (List.forall_mem_cons.mpr ⟨tw_205, (List.forall_mem_cons.mpr ⟨tw_207, (List.forall_mem_nil _)⟩)⟩)⟩)⟩)⟩)⟩)⟩)⟩)⟩)⟩)⟩)
theorem in_X6 : ∀ w ∈ u_ws RX6 TX6 6, w ∈ gw_tbl := (List.forall_mem_cons.mpr ⟨tw_162, (List.forall_mem_cons.mpr ⟨tw_164, (List.forall_mem_cons.mpr ⟨tw_166, (List.forall_mem_cons.mpr ⟨tw_168, (List.forall_mem_cons.mpr ⟨tw_170, (List.forall_mem_cons.mpr ⟨tw_172, (List.forall_mem_nil _)⟩)⟩)⟩)⟩)⟩)⟩)
theorem in_X7 : ∀ w ∈ u_ws RX7 TX7 14, w ∈ gw_tbl := (List.forall_mem_cons.mpr ⟨tw_112, (List.forall_mem_cons.mpr ⟨tw_114, (List.forall_mem_cons.mpr ⟨tw_116, (List.forall_mem_cons.mpr ⟨tw_118, (List.forall_mem_cons.mpr ⟨tw_120, (List.forall_mem_cons.mpr ⟨tw_122, (List.forall_mem_cons.mpr ⟨tw_124, (List.forall_mem_cons.mpr ⟨tw_126, (List.forall_mem_cons.mpr ⟨tw_128, (List.forall_mem_cons.mpr ⟨tw_130, (List.forall_mem_cons.mpr ⟨tw_132, (List.forall_mem_cons.mpr ⟨tw_134, (List.forall_mem_cons.mpr ⟨tw_136, (List.forall_mem_cons.mpr ⟨tw_138, (List.forall_mem_nil _)⟩)⟩)⟩)⟩)⟩)⟩)⟩)⟩)⟩)⟩)⟩)⟩)⟩)⟩)
theorem in_X1 : ∀ w ∈ u_ws RX1 TX1 8, w ∈ gw_tbl := (List.forall_mem_cons.mpr ⟨tw_233, (List.forall_mem_cons.mpr ⟨tw_235, (List.forall_mem_cons.mpr ⟨tw_237, (List.forall_mem_cons.mpr ⟨tw_239, (List.forall_mem_cons.mpr ⟨tw_241, (List.forall_mem_cons.mpr ⟨tw_243, (List.forall_mem_cons.mpr ⟨tw_245, (List.forall_mem_cons.mpr ⟨tw_247, (List.forall_mem_nil _)⟩)⟩)⟩)⟩)⟩)⟩)⟩)⟩)
theorem in_X2 : ∀ w ∈ u_ws RX2 TX2 3, w ∈ gw_tbl := (List.forall_mem_cons.mpr ⟨tw_262, (List.forall_mem_cons.mpr ⟨tw_264, (List.forall_mem_cons.mpr ⟨tw_266, (List.forall_mem_nil _)⟩)⟩)⟩)
theorem in_X4 : ∀ w ∈ u_ws RX4 TX4 9, w ∈ gw_tbl := (List.forall_mem_cons.mpr ⟨tw_309, (List.forall_mem_cons.mpr ⟨tw_311, (List.forall_mem_cons.mpr ⟨tw_313, (List.forall_mem_cons.mpr ⟨tw_315, (List.forall_mem_cons.mpr ⟨tw_317, (List.forall_mem_cons.mpr ⟨tw_319, (List.forall_mem_cons.mpr ⟨tw_321, (List.forall_mem_cons.mpr ⟨tw_323, (List.forall_mem_cons.mpr ⟨tw_325, (List.forall_mem_nil _)⟩)⟩)⟩)⟩)⟩)⟩)⟩)⟩)⟩)
theorem in_X0 : ∀ w ∈ u_ws RX0 TX0 4, w ∈ gw_tbl := (List.forall_mem_cons.mpr ⟨tw_287, (List.forall_mem_cons.mpr ⟨tw_289, (List.forall_mem_cons.mpr ⟨tw_291, (List.forall_mem_cons.mpr ⟨tw_293, (List.forall_mem_nil _)⟩)⟩)⟩)⟩)
theorem in_X5 : ∀ w ∈ u_ws RX5 TX5 6, w ∈ gw_tbl := (List.forall_mem_cons.mpr ⟨tw_340, (List.forall_mem_cons.mpr ⟨tw_342, (List.forall_mem_cons.mpr ⟨tw_344, (List.forall_mem_cons.mpr ⟨tw_346, (List.forall_mem_cons.mpr ⟨tw_348, (List.forall_mem_cons.mpr ⟨tw_350, (List.forall_mem_nil _)⟩)⟩)⟩)⟩)⟩)⟩)
