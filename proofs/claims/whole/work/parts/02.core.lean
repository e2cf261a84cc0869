/-! ===== the core: a world of cells in a fixed layout; a walk of a method's bytecode tied to a program over worlds ===== -/
set_option maxRecDepth 100000 in
theorem lw_good : lw_tbl.all goodWord = true := by decide +kernel
theorem lw_gin (y : Cond) (hy : goodWord y = true) : ∀ w ∈ y :: lw_tbl, goodWord w = true := by
  intro w hw
  rcases List.mem_cons.mp hw with rfl | h
  · exact hy
  · exact List.all_eq_true.mp lw_good w h
/-- a world: ints, longs, references of each cell -/
abbrev Wd : Type := (Nat → Nat → Int32) × (Nat → Nat → Int64) × (Nat → Nat → Nat)
def gI (σ : Wd) (c k : Nat) : Int32 := σ.1 c k
def gL (σ : Wd) (c k : Nat) : Int64 := σ.2.1 c k
def gR (σ : Wd) (c k : Nat) : Nat := σ.2.2 c k
def rI (σ : Wd) (c : Nat) (f : Nat → Int32) : Wd := (fun a => if a = c then f else σ.1 a, σ.2.1, σ.2.2)
def rL (σ : Wd) (c : Nat) (f : Nat → Int64) : Wd := (σ.1, fun a => if a = c then f else σ.2.1 a, σ.2.2)
def rR (σ : Wd) (c : Nat) (f : Nat → Nat) : Wd := (σ.1, σ.2.1, fun a => if a = c then f else σ.2.2 a)
def uI (σ : Wd) (c k : Nat) (v : Int32) : Wd := rI σ c (upd (σ.1 c) k v)
def uL (σ : Wd) (c k : Nat) (v : Int64) : Wd := rL σ c (vp_updL (σ.2.1 c) k v)
def uR (σ : Wd) (c k : Nat) (v : Nat) : Wd := rR σ c (va_up (σ.2.2 c) k v)
/-- a layout: classes' numbers and slots, addresses, array classes, how many cells, what each cell is -/
abbrev Zt : Type := va_G × (Nat → Nat) × (Nat → ClassId) × Nat × (Nat → (Nat → Int32) → (Nat → Int64) → (Nat → Nat) → va_E)
abbrev zA (Z : Zt) (i : Nat) : Nat := Z.2.1 i
abbrev zN (Z : Zt) : Nat := Z.2.2.2.1
abbrev zY (Z : Zt) (i : Nat) (σ : Wd) : va_E := Z.2.2.2.2 i (σ.1 i) (σ.2.1 i) (σ.2.2 i)
def zT (Z : Zt) : List (ClassId × FieldType) := [(Z.2.2.1 0, .byte), (Z.2.2.1 1, .int), (Z.2.2.1 2, .long), (Z.2.2.1 3, .boolean), (Z.2.2.1 4, .object "TentativeDesk$Going"), (Z.2.2.1 5, .array .long)]
def zW (Z : Zt) (σ : Wd) : va_W := (List.range (zN Z)).map (fun i => (zA Z i, zY Z i σ))
def zS (Z : Zt) : Nat → Prop := fun q => ∃ i, i < zN Z ∧ q = zA Z i
def zI (Z : Zt) : Prop := ∀ i j, i < zN Z → j < zN Z → zA Z i = zA Z j → i = j
theorem zW_at {Z : Zt} {σ : Wd} {i : Nat} (h : i < zN Z) : (zW Z σ)[i]? = some (zA Z i, zY Z i σ) := by
  unfold zW
  rw [List.getElem?_map, List.getElem?_range h]
  rfl
theorem zW_e {Z : Zt} {σ : Wd} {i : Nat} {e : va_E} (h : i < zN Z) (he : zY Z i σ = e) : (zW Z σ)[i]? = some (zA Z i, e) := by rw [zW_at h, he]
theorem zW_set {Z : Zt} {σ σ' : Wd} {i : Nat} {e : va_E} (hi : zY Z i σ' = e) (ho : ∀ j, j ≠ i → zY Z j σ' = zY Z j σ) : (zW Z σ).set i (zA Z i, e) = zW Z σ' := by
  apply List.ext_getElem?
  intro k
  rw [List.getElem?_set]
  unfold zW
  simp only [List.length_map, List.length_range, List.getElem?_map]
  by_cases hk : i = k
  · subst hk
    by_cases hl : i < zN Z
    · rw [List.getElem?_range hl]; simp [hl, hi]
    · simp [hl]
  · by_cases hl : k < zN Z
    · rw [List.getElem?_range hl]; simp [hk, ho k (fun q => hk q.symm)]
    · simp [hk, hl]
theorem zD {Z : Zt} (h : zI Z) (σ : Wd) : va_D (zS Z) (zW Z σ) := by
  have key : ∀ (k : Nat) (q : Nat × va_E), (zW Z σ)[k]? = some q → k < zN Z ∧ q.1 = zA Z k := by
    intro k q hq
    have hl : k < zN Z := by
      have := (List.getElem?_eq_some_iff.mp hq).1
      simpa [zW] using this
    rw [zW_at hl] at hq
    cases hq
    exact ⟨hl, rfl⟩
  refine ⟨fun i j p q hp hq hpq => ?_, fun k q hq => ⟨k, key k q hq⟩⟩
  obtain ⟨h1, h2⟩ := key i p hp
  obtain ⟨h3, h4⟩ := key j q hq
  exact h i j h1 h3 (by rw [← h2, ← h4, hpq])
/-- what is fixed in a walk of one method's body -/
abbrev Kt : Type := Program × Launch × Env × Room × State × MethodId × Array Value × List Frame × Method × Code × Nat × (State → Prop)
def Fx (K : Kt) (Z : Zt) (cc : ByteArray) (own : String) (fr lo : Nat) : Prop :=
  match K with
  | (p, _, _, R, s, m, _, _, meth, c, nL, _) => p.tables.exec = Jvm.exec ∧ c.code = cc ∧ c.maxLocals = nL ∧ s.vm.findClass own = some m.cls ∧ (∀ w ∈ lw_tbl, w.before #[] s = true) ∧ va_K Z.1 vwCl (zT Z) s ∧ zI Z ∧ meth.locks = false ∧ fr ≤ R.frames ∧ lo ≤ R.locals
def Go (K : Kt) (Z : Zt) (σ : Wd) (pc : Nat) (L : List (Nat × Value)) (st : List Value) : Prop :=
  match K with
  | (p, l, e, R, s, m, args, below, meth, c, nL, Q) => ∀ (H : Heap) (locs : List Loc) (ls : Array Slot), va_P Z.1 vwCl (zW Z σ) H → va_S (zS Z) s.heap H locs → lv_has ls nL L → W p l e R s m args below meth c H locs 0 0 Q (F0 m pc ls st)
/-- from here the machine does what the program prog tells, if prog tells anything -/
def Y {ρ : Type} (K : Kt) (Z : Zt) (prog : Option ρ) (E : ρ → Prop) (σ : Wd) (pc : Nat) (L : List (Nat × Value)) (st : List Value) : Prop := ∀ q, prog = some q → E q → Go K Z σ pc L st
theorem Y.of {ρ : Type} {K : Kt} {Z : Zt} {prog : Option ρ} {E : ρ → Prop} {σ σ' : Wd} {pc pc' : Nat} {L L' : List (Nat × Value)} {st st' : List Value} (h : Go K Z σ' pc' L' st' → Go K Z σ pc L st) (k : Y K Z prog E σ' pc' L' st') : Y K Z prog E σ pc L st := fun q h1 h2 => h (k q h1 h2)
