/-! ===== the core: a world of cells in a fixed layout; a walk of a method's bytecode tied to a program over worlds ===== -/
def gw_tbl : List Cond := lw_tbl.filter goodWord
theorem gw_mem {w : Cond} (i : Nat) (h : lw_tbl[i]? = some w) (hg : goodWord w = true) : w ∈ gw_tbl := List.mem_filter.mpr ⟨List.mem_of_getElem? h, hg⟩
theorem gw_pay {args : Array Value} {s : State} (y : Cond) (hy : goodWord y = true) (hy2 : y ∈ gw_tbl) (hts : ∀ w ∈ gw_tbl, w.before args s = true) : ∀ w ∈ y :: gw_tbl, ∀ (a' : Array Value) (U : State), s.WarmedH U.vm → w.before a' U = true := by
  intro w hw a' U hW
  have hm : w ∈ gw_tbl := by
    rcases List.mem_cons.mp hw with rfl | h
    · exact hy2
    · exact h
  exact word_at hW (good_of_word (List.mem_filter.mp hm).2) (hts w hm)
/-- a world: ints, longs, references of each cell -/
abbrev Wd : Type := (Nat → Nat → Int32) × (Nat → Nat → Int64) × (Nat → Nat → Nat)
def gI (σ : Wd) (c k : Nat) : Int32 := σ.1 c k
def gL (σ : Wd) (c k : Nat) : Int64 := σ.2.1 c k
def gR (σ : Wd) (c k : Nat) : Nat := σ.2.2 c k
def rI (σ : Wd) (c : Nat) (f : Nat → Int32) : Wd := (fun a => if a = c then f else σ.1 a, σ.2.1, σ.2.2)
def rL (σ : Wd) (c : Nat) (f : Nat → Int64) : Wd := (σ.1, fun a => if a = c then f else σ.2.1 a, σ.2.2)
def rR (σ : Wd) (c : Nat) (f : Nat → Nat) : Wd := (σ.1, σ.2.1, fun a => if a = c then f else σ.2.2 a)
def uI (σ : Wd) (c k : Nat) (v : Int32) : Wd := rI σ c (upd (σ.1 c) k v)
def uL (σ : Wd) (c k : Nat) (v : Int64) : Wd := rL σ c (vp_updL (σ.2.1 c) k v)
def uR (σ : Wd) (c k : Nat) (v : Nat) : Wd := rR σ c (va_up (σ.2.2 c) k v)
/-- a layout: classes' numbers and slots, addresses, array classes, how many cells, what each cell is, what else holds of a state -/
abbrev Zt : Type := va_G × (Nat → Nat) × (Nat → ClassId) × Nat × (Nat → (Nat → Int32) → (Nat → Int64) → (Nat → Nat) → va_E) × (State → Prop)
abbrev zA (Z : Zt) (i : Nat) : Nat := Z.2.1 i
abbrev zC (Z : Zt) (i : Nat) : ClassId := Z.2.2.1 i
abbrev zN (Z : Zt) : Nat := Z.2.2.2.1
abbrev zY (Z : Zt) (i : Nat) (σ : Wd) : va_E := Z.2.2.2.2.1 i (σ.1 i) (σ.2.1 i) (σ.2.2 i)
abbrev zX (Z : Zt) : State → Prop := Z.2.2.2.2.2
def zT (Z : Zt) : List (ClassId × FieldType) := [(zC Z 0, .byte), (zC Z 1, .int), (zC Z 2, .long), (zC Z 3, .boolean), (zC Z 4, .object "TentativeDesk$Going"), (zC Z 5, .array .long), (zC Z 6, .array .int), (zC Z 7, .array (.array .int)), (zC Z 8, .array .boolean)]
def zW (Z : Zt) (σ : Wd) : va_W := (List.range (zN Z)).map (fun i => (zA Z i, zY Z i σ))
def zS (Z : Zt) : Nat → Prop := fun q => ∃ i, i < zN Z ∧ q = zA Z i
def zI (Z : Zt) : Prop := ∀ i j, i < zN Z → j < zN Z → zA Z i = zA Z j → i = j
theorem zW_at {Z : Zt} {σ : Wd} {i : Nat} (h : i < zN Z) : (zW Z σ)[i]? = some (zA Z i, zY Z i σ) := by
  unfold zW
  rw [List.getElem?_map, List.getElem?_range h]
  rfl
theorem zW_e {Z : Zt} {σ : Wd} {i : Nat} {e : va_E} (h : i < zN Z) (he : zY Z i σ = e) : (zW Z σ)[i]? = some (zA Z i, e) := by rw [zW_at h, he]
theorem zW_set {Z : Zt} {σ σ' : Wd} {i : Nat} {e : va_E} (hi : zY Z i σ' = e) (ho : ∀ j, j ≠ i → zY Z j σ' = zY Z j σ) : (zW Z σ).set i (zA Z i, e) = zW Z σ' := by
  apply List.ext_getElem?
  intro k
  rw [List.getElem?_set]
  unfold zW
  simp only [List.length_map, List.length_range, List.getElem?_map]
  by_cases hk : i = k
  · subst hk
    by_cases hl : i < zN Z
    · rw [List.getElem?_range hl]; simp [hl, hi]
    · simp [hl]
  · by_cases hl : k < zN Z
    · rw [List.getElem?_range hl]; simp [hk, ho k (fun q => hk q.symm)]
    · simp [hk, hl]
theorem zD {Z : Zt} (h : zI Z) (σ : Wd) : va_D (zS Z) (zW Z σ) := by
  have key : ∀ (k : Nat) (q : Nat × va_E), (zW Z σ)[k]? = some q → k < zN Z ∧ q.1 = zA Z k := by
    intro k q hq
    have hl : k < zN Z := by
      have := (List.getElem?_eq_some_iff.mp hq).1
      simpa [zW] using this
    rw [zW_at hl] at hq
    cases hq
    exact ⟨hl, rfl⟩
  refine ⟨fun i j p q hp hq hpq => ?_, fun k q hq => ⟨k, key k q hq⟩⟩
  obtain ⟨h1, h2⟩ := key i p hp
  obtain ⟨h3, h4⟩ := key j q hq
  exact h i j h1 h3 (by rw [← h2, ← h4, hpq])
theorem zY_rI {Z : Zt} {σ : Wd} {i : Nat} {f : Nat → Int32} : ∀ j, j ≠ i → zY Z j (rI σ i f) = zY Z j σ := fun j h => by simp [zY, rI, h]
theorem zY_rL {Z : Zt} {σ : Wd} {i : Nat} {f : Nat → Int64} : ∀ j, j ≠ i → zY Z j (rL σ i f) = zY Z j σ := fun j h => by simp [zY, rL, h]
theorem zY_rR {Z : Zt} {σ : Wd} {i : Nat} {f : Nat → Nat} : ∀ j, j ≠ i → zY Z j (rR σ i f) = zY Z j σ := fun j h => by simp [zY, rR, h]
/-- what holds besides of a state stays under what a method may do -/
def zXok (Z : Zt) : Prop := (∀ s U : State, zX Z s → va_F (zS Z) s U → s.WarmedH U.vm → zX Z U) ∧ ∀ (U : State) (g : JFrame) (mk : MethodId) (a : Array Value), zX Z U → zX Z (U.calling g mk a)
def zU (Z : Zt) (σ : Wd) (U : State) : Prop := va_P Z.1 vwCl (zW Z σ) U.heap ∧ va_K Z.1 vwCl (zT Z) U ∧ zI Z ∧ zX Z U
/-- what is fixed in a walk of one method's body -/
abbrev Kt : Type := Program × Launch × Env × Room × State × MethodId × Array Value × List Frame × Method × Code × Nat × (State → Prop) × Nat × Nat
def Kl (K : Kt) : Launch := K.2.1
def Fx (K : Kt) (Z : Zt) (cc : ByteArray) (own : String) (fr lo : Nat) : Prop :=
  match K with
  | (p, _, _, R, s, m, args, _, meth, c, nL, _, ce0, sl0) => p.tables.exec = Jvm.exec ∧ c.code = cc ∧ c.maxLocals = nL ∧ s.vm.findClass own = some m.cls ∧ (∀ w ∈ gw_tbl, w.before args s = true) ∧ va_K Z.1 vwCl (zT Z) s ∧ zI Z ∧ meth.locks = false ∧ fr ≤ R.frames ∧ lo ≤ R.locals ∧ zX Z s ∧ zXok Z ∧ ce0 ≤ R.cells ∧ sl0 ≤ R.slots
def Go (K : Kt) (Z : Zt) (σ : Wd) (pc : Nat) (L : List (Nat × Value)) (st : List Value) : Prop :=
  match K with
  | (p, l, e, R, s, m, args, below, meth, c, nL, Q, ce0, sl0) => ∀ (H : Heap) (locs : List Loc) (ls : Array Slot), va_P Z.1 vwCl (zW Z σ) H → va_S (zS Z) s.heap H locs → lv_has ls nL L → W p l e R s m args below meth c H locs ce0 sl0 Q (F0 m pc ls st)
/-- from here the machine does what the program prog tells, if prog tells anything -/
def Y {ρ : Type} (K : Kt) (Z : Zt) (prog : Option ρ) (E : ρ → Prop) (σ : Wd) (pc : Nat) (L : List (Nat × Value)) (st : List Value) : Prop := ∀ q, prog = some q → E q → Go K Z σ pc L st
theorem Y.of {ρ : Type} {K : Kt} {Z : Zt} {prog : Option ρ} {E : ρ → Prop} {σ σ' : Wd} {pc pc' : Nat} {L L' : List (Nat × Value)} {st st' : List Value} (h : Go K Z σ' pc' L' st' → Go K Z σ pc L st) (k : Y K Z prog E σ' pc' L' st') : Y K Z prog E σ pc L st := fun q h1 h2 => h (k q h1 h2)
-- the words of programs
def chk {α : Type} (P : Prop) [Decidable P] (k : Option α) : Option α := if P then k else none
def lt {α β : Type} (a : α) (k : α → Option β) : Option β := k a
def bnd1 {α β : Type} (x : Option α) (k : α → Option β) : Option β := match x with
  | none => none
  | some a => k a
def bnd2 {α β γ : Type} (x : Option (α × β)) (k : α → β → Option γ) : Option γ := match x with
  | none => none
  | some a => k a.1 a.2
def iter {S X : Type} (body : S → Option (S ⊕ X)) : Nat → S → Option X
  | 0, _ => none
  | n + 1, s => match body s with
    | none => none
    | some (.inl s') => iter body n s'
    | some (.inr x) => some x
def FU : Nat := 1000000
abbrev ib (j : Int32) (n : Nat) : Prop := ¬ (j < 0 ∨ n ≤ j.toNatClampNeg)
abbrev ix (j : Int32) : Nat := j.toNatClampNeg
abbrev nn32 (r : UInt32) : Prop := r &&& 0x7fffffff ≤ 0x7f800000
section XR
variable {ρ : Type} {K : Kt} {Z : Zt} {cc : ByteArray} {own : String} {fr lo : Nat} {prog progA progB : Option ρ} {E : ρ → Prop} {σ : Wd} {L : List (Nat × Value)} {rest : List Value}
theorem Y_bnd1 {α : Type} {f : Option α} {kk : α → Option ρ} {pc : Nat} {st : List Value} (k : ∀ a, f = some a → Y K Z (kk a) E σ pc L st) : Y K Z (bnd1 f kk) E σ pc L st := by
  intro q h1 h2
  cases hf : f with
  | none => rw [hf] at h1; cases h1
  | some a => rw [hf] at h1; exact k a hf q h1 h2
theorem Y_bnd2 {α β : Type} {f : Option (α × β)} {kk : α → β → Option ρ} {pc : Nat} {st : List Value} (k : ∀ a b, f = some (a, b) → Y K Z (kk a b) E σ pc L st) : Y K Z (bnd2 f kk) E σ pc L st := by
  intro q h1 h2
  cases hf : f with
  | none => rw [hf] at h1; cases h1
  | some a => rw [hf] at h1; exact k a.1 a.2 hf q h1 h2
theorem Y_chk {P : Prop} [Decidable P] {pc : Nat} {st : List Value} (k : P → Y K Z prog E σ pc L st) : Y K Z (chk P prog) E σ pc L st := by
  intro q h1 h2
  unfold chk at h1
  by_cases hP : P
  · rw [if_pos hP] at h1; exact k hP q h1 h2
  · rw [if_neg hP] at h1; cases h1
theorem Y_sub {L' : List (Nat × Value)} {pc : Nat} {st : List Value} (ks : List Nat) (h : lv_pick L ks = L') (k : Y K Z prog E σ pc L' st) : Y K Z prog E σ pc L st := by
  refine Y.of ?_ k
  obtain ⟨p, l, e, R, s, m, args, below, meth, c, nL, Q, ce0, sl0⟩ := K
  intro g H locs ls hP hS hl
  exact g H locs ls hP hS (lv_sub hl ks h)
theorem x_exit {S X : Type} {kk : X → Option ρ} {E' : S ⊕ X → Prop} {pc : Nat} {st : List Value} (hx : ∀ x, E' (.inr x) → ∃ q, kk x = some q ∧ E q) (x : X) (k : Y K Z (kk x) E σ pc L st) : Y K Z (some (.inr x)) E' σ pc L st := by
  intro q h1 h2
  cases h1
  obtain ⟨q, h3, h4⟩ := hx x h2
  exact k q h3 h4
theorem x_back {S X : Type} {E' : S ⊕ X → Prop} {pc : Nat} {st : List Value} (s' : S) (hb : E' (.inl s') → Go K Z σ pc L st) : Y K Z (some (.inl s')) E' σ pc L st := by
  intro q h1 h2
  cases h1
  exact hb h2
theorem x_loop {S X : Type} {kk : X → Option ρ} {body : S → Option (S ⊕ X)} (pc : Nat) (fσ : S → Wd) (fL : S → List (Nat × Value))
    (h : ∀ E' : S ⊕ X → Prop, (∀ s', E' (.inl s') → Go K Z (fσ s') pc (fL s') []) → (∀ x, E' (.inr x) → ∃ q, kk x = some q ∧ E q) → ∀ s, Y K Z (body s) E' (fσ s) pc (fL s) []) :
    ∀ (n : Nat) (s : S), Y K Z (bnd1 (iter body n s) kk) E (fσ s) pc (fL s) [] := by
  intro n
  induction n with
  | zero => intro s q h1; cases h1
  | succ n ih =>
    intro s q h1 h2
    refine h (fun r => ∃ q, (match r with | .inl s' => bnd1 (iter body n s') kk | .inr x => kk x) = some q ∧ E q) (fun s' hs' => ?_) (fun x hx => hx) s ?_ ?_ ?_
    · obtain ⟨q', h3, h4⟩ := hs'
      exact ih s' q' h3 h4
    · exact (body s).getD (match body s with | some r => r | none => .inl s)
    · cases hb : body s with
      | none => rw [show iter body (n + 1) s = none by simp only [iter, hb]] at h1; cases h1
      | some r => rfl
    · refine ⟨q, ?_, h2⟩
      cases hb : body s with
      | none => rw [show iter body (n + 1) s = none by simp only [iter, hb]] at h1; cases h1
      | some r =>
        cases r with
        | inl s' => rw [show iter body (n + 1) s = iter body n s' by simp only [iter, hb]] at h1; exact h1
        | inr x => rw [show iter body (n + 1) s = some x by simp only [iter, hb]] at h1; exact h1

theorem x_iconst (C : Fx K Z cc own fr lo) (pc : Nat) {n : Int} {v : Int32} (d : decode cc pc = .ok (.iconst n, 1)) (hv : Int32.ofInt n = v) (k : Y K Z prog E σ (pc + 1) L (.int v :: rest)) : Y K Z prog E σ pc L (rest) := by
  refine Y.of ?_ k
  obtain ⟨p, l, e, R, s, m, args, below, meth, c, nL, Q, ce0, sl0⟩ := K
  obtain ⟨hx, hb, hml, hown, hts, hK, hZ, hlk, hfr, hlo, hzx, hok, hce, hsl⟩ := C
  intro g H locs ls hP hS hl
  exact lv_iconst hx hb d hv (g H locs ls hP hS hl)

theorem x_lconst (C : Fx K Z cc own fr lo) (pc : Nat) {n : Fin 2} {v : Int64} (d : decode cc pc = .ok (.lconst n, 1)) (hv : Int64.ofNat (n : Nat) = v) (k : Y K Z prog E σ (pc + 1) L (.long v :: rest)) : Y K Z prog E σ pc L (rest) := by
  refine Y.of ?_ k
  obtain ⟨p, l, e, R, s, m, args, below, meth, c, nL, Q, ce0, sl0⟩ := K
  obtain ⟨hx, hb, hml, hown, hts, hK, hZ, hlk, hfr, hlo, hzx, hok, hce, hsl⟩ := C
  intro g H locs ls hP hS hl
  exact lv_lconst hx hb d hv (g H locs ls hP hS hl)

theorem x_bipush (C : Fx K Z cc own fr lo) (pc : Nat) {n : Int} {v : Int32} (d : decode cc pc = .ok (.bipush n, 2)) (hv : (Int8.ofInt n).toInt32 = v) (k : Y K Z prog E σ (pc + 2) L (.int v :: rest)) : Y K Z prog E σ pc L (rest) := by
  refine Y.of ?_ k
  obtain ⟨p, l, e, R, s, m, args, below, meth, c, nL, Q, ce0, sl0⟩ := K
  obtain ⟨hx, hb, hml, hown, hts, hK, hZ, hlk, hfr, hlo, hzx, hok, hce, hsl⟩ := C
  intro g H locs ls hP hS hl
  exact lv_bipush hx hb d hv (g H locs ls hP hS hl)

theorem x_sipush (C : Fx K Z cc own fr lo) (pc : Nat) {n : Int} {v : Int32} (d : decode cc pc = .ok (.sipush n, 3)) (hv : (Int16.ofInt n).toInt32 = v) (k : Y K Z prog E σ (pc + 3) L (.int v :: rest)) : Y K Z prog E σ pc L (rest) := by
  refine Y.of ?_ k
  obtain ⟨p, l, e, R, s, m, args, below, meth, c, nL, Q, ce0, sl0⟩ := K
  obtain ⟨hx, hb, hml, hown, hts, hK, hZ, hlk, hfr, hlo, hzx, hok, hce, hsl⟩ := C
  intro g H locs ls hP hS hl
  exact lv_sipush hx hb d hv (g H locs ls hP hS hl)

theorem x_ldc (C : Fx K Z cc own fr lo) (pc : Nat) {index : Nat} {v : Int32} (d : decode cc pc = .ok (.ldc index, 2)) (hw : Cond.constant own index v ∈ gw_tbl) (k : Y K Z prog E σ (pc + 2) L (.int v :: rest)) : Y K Z prog E σ pc L (rest) := by
  refine Y.of ?_ k
  obtain ⟨p, l, e, R, s, m, args, below, meth, c, nL, Q, ce0, sl0⟩ := K
  obtain ⟨hx, hb, hml, hown, hts, hK, hZ, hlk, hfr, hlo, hzx, hok, hce, hsl⟩ := C
  intro g H locs ls hP hS hl
  exact lv_ldc hx hb hown (hts _ hw) d (g H locs ls hP hS hl)

theorem x_ldcw (C : Fx K Z cc own fr lo) (pc : Nat) {index : Nat} {v : Int32} (d : decode cc pc = .ok (.ldc_w index, 3)) (hw : Cond.constant own index v ∈ gw_tbl) (k : Y K Z prog E σ (pc + 3) L (.int v :: rest)) : Y K Z prog E σ pc L (rest) := by
  refine Y.of ?_ k
  obtain ⟨p, l, e, R, s, m, args, below, meth, c, nL, Q, ce0, sl0⟩ := K
  obtain ⟨hx, hb, hml, hown, hts, hK, hZ, hlk, hfr, hlo, hzx, hok, hce, hsl⟩ := C
  intro g H locs ls hP hS hl
  exact lv_ldcw hx hb hown (hts _ hw) d (g H locs ls hP hS hl)

theorem x_ldc2 (C : Fx K Z cc own fr lo) (pc : Nat) {index : Nat} {v : Int64} (d : decode cc pc = .ok (.ldc2_w index, 3)) (hw : Cond.constantLong own index v ∈ gw_tbl) (k : Y K Z prog E σ (pc + 3) L (.long v :: rest)) : Y K Z prog E σ pc L (rest) := by
  refine Y.of ?_ k
  obtain ⟨p, l, e, R, s, m, args, below, meth, c, nL, Q, ce0, sl0⟩ := K
  obtain ⟨hx, hb, hml, hown, hts, hK, hZ, hlk, hfr, hlo, hzx, hok, hce, hsl⟩ := C
  intro g H locs ls hP hS hl
  exact lv_ldc2 hx hb hown (hts _ hw) d (g H locs ls hP hS hl)

theorem x_iload_n (C : Fx K Z cc own fr lo) (pc : Nat) {q : Fin 4} {x : Int32} (j : Nat) (d : decode cc pc = .ok (.iload_n q, 1)) (hj : L[j]? = some ((q : Nat), .int x)) (k : Y K Z prog E σ (pc + 1) L (.int x :: rest)) : Y K Z prog E σ pc L (rest) := by
  refine Y.of ?_ k
  obtain ⟨p, l, e, R, s, m, args, below, meth, c, nL, Q, ce0, sl0⟩ := K
  obtain ⟨hx, hb, hml, hown, hts, hK, hZ, hlk, hfr, hlo, hzx, hok, hce, hsl⟩ := C
  intro g H locs ls hP hS hl
  exact lv_iload_n hx hb d rfl (lv_at hl j hj) (g H locs ls hP hS hl)

theorem x_iload (C : Fx K Z cc own fr lo) (pc : Nat) {q : Nat} {x : Int32} (j : Nat) (d : decode cc pc = .ok (.iload q, 2)) (hj : L[j]? = some (q, .int x)) (k : Y K Z prog E σ (pc + 2) L (.int x :: rest)) : Y K Z prog E σ pc L (rest) := by
  refine Y.of ?_ k
  obtain ⟨p, l, e, R, s, m, args, below, meth, c, nL, Q, ce0, sl0⟩ := K
  obtain ⟨hx, hb, hml, hown, hts, hK, hZ, hlk, hfr, hlo, hzx, hok, hce, hsl⟩ := C
  intro g H locs ls hP hS hl
  exact lv_iload hx hb d (lv_at hl j hj) (g H locs ls hP hS hl)

theorem x_lload_n (C : Fx K Z cc own fr lo) (pc : Nat) {q : Fin 4} {x : Int64} (j : Nat) (d : decode cc pc = .ok (.lload_n q, 1)) (hj : L[j]? = some ((q : Nat), .long x)) (k : Y K Z prog E σ (pc + 1) L (.long x :: rest)) : Y K Z prog E σ pc L (rest) := by
  refine Y.of ?_ k
  obtain ⟨p, l, e, R, s, m, args, below, meth, c, nL, Q, ce0, sl0⟩ := K
  obtain ⟨hx, hb, hml, hown, hts, hK, hZ, hlk, hfr, hlo, hzx, hok, hce, hsl⟩ := C
  intro g H locs ls hP hS hl
  exact lv_lload_n hx hb d rfl (lv_at hl j hj) (g H locs ls hP hS hl)

theorem x_lload (C : Fx K Z cc own fr lo) (pc : Nat) {q : Nat} {x : Int64} (j : Nat) (d : decode cc pc = .ok (.lload q, 2)) (hj : L[j]? = some (q, .long x)) (k : Y K Z prog E σ (pc + 2) L (.long x :: rest)) : Y K Z prog E σ pc L (rest) := by
  refine Y.of ?_ k
  obtain ⟨p, l, e, R, s, m, args, below, meth, c, nL, Q, ce0, sl0⟩ := K
  obtain ⟨hx, hb, hml, hown, hts, hK, hZ, hlk, hfr, hlo, hzx, hok, hce, hsl⟩ := C
  intro g H locs ls hP hS hl
  exact lv_lload hx hb d (lv_at hl j hj) (g H locs ls hP hS hl)

theorem x_aload_n (C : Fx K Z cc own fr lo) (pc : Nat) {q : Fin 4} {x : Nat} (j : Nat) (d : decode cc pc = .ok (.aload_n q, 1)) (hj : L[j]? = some ((q : Nat), .ref x)) (k : Y K Z prog E σ (pc + 1) L (.ref x :: rest)) : Y K Z prog E σ pc L (rest) := by
  refine Y.of ?_ k
  obtain ⟨p, l, e, R, s, m, args, below, meth, c, nL, Q, ce0, sl0⟩ := K
  obtain ⟨hx, hb, hml, hown, hts, hK, hZ, hlk, hfr, hlo, hzx, hok, hce, hsl⟩ := C
  intro g H locs ls hP hS hl
  exact lv_aload_n hx hb d rfl (lv_at hl j hj) (g H locs ls hP hS hl)

theorem x_aload (C : Fx K Z cc own fr lo) (pc : Nat) {q : Nat} {x : Nat} (j : Nat) (d : decode cc pc = .ok (.aload q, 2)) (hj : L[j]? = some (q, .ref x)) (k : Y K Z prog E σ (pc + 2) L (.ref x :: rest)) : Y K Z prog E σ pc L (rest) := by
  refine Y.of ?_ k
  obtain ⟨p, l, e, R, s, m, args, below, meth, c, nL, Q, ce0, sl0⟩ := K
  obtain ⟨hx, hb, hml, hown, hts, hK, hZ, hlk, hfr, hlo, hzx, hok, hce, hsl⟩ := C
  intro g H locs ls hP hS hl
  exact lv_aload hx hb d (lv_at hl j hj) (g H locs ls hP hS hl)

theorem x_fload_n (C : Fx K Z cc own fr lo) (pc : Nat) {q : Fin 4} {x : UInt32} (j : Nat) (d : decode cc pc = .ok (.fload_n q, 1)) (hj : L[j]? = some ((q : Nat), .float x)) (k : Y K Z prog E σ (pc + 1) L (.float x :: rest)) : Y K Z prog E σ pc L (rest) := by
  refine Y.of ?_ k
  obtain ⟨p, l, e, R, s, m, args, below, meth, c, nL, Q, ce0, sl0⟩ := K
  obtain ⟨hx, hb, hml, hown, hts, hK, hZ, hlk, hfr, hlo, hzx, hok, hce, hsl⟩ := C
  intro g H locs ls hP hS hl
  exact lv_fload_n hx hb d rfl (lv_at hl j hj) (g H locs ls hP hS hl)

theorem x_istore_n (C : Fx K Z cc own fr lo) (pc : Nat) {q4 : Fin 4} {i : Nat} {x : Int32} {L' : List (Nat × Value)} (d : decode cc pc = .ok (.istore_n q4, 1)) (hi : (q4 : Nat) = i) (hn : ∀ K2 : Kt, K = K2 → i < K2.2.2.2.2.2.2.2.2.2.2.1) (hl : (i, Value.int x) :: L.filter (fun q => !(q.1 == i) && !(q.1 + 1 == i && q.2.category == 2)) = L') (k : Y K Z prog E σ (pc + 1) L' rest) : Y K Z prog E σ pc L (Value.int x :: rest) := by
  refine Y.of ?_ k
  obtain ⟨p, l, e, R, s, m, args, below, meth, c, nL, Q, ce0, sl0⟩ := K
  obtain ⟨hx, hb, hml, hown, hts, hK, hZ, hlk, hfr, hlo, hzx, hok, hce, hsl⟩ := C
  intro g H locs ls hP hS hl2
  exact lv_istore_n hx hb d hi hl2 (hn _ rfl) hl (fun ls2 h2 => g H locs ls2 hP hS h2)

theorem x_istore (C : Fx K Z cc own fr lo) (pc : Nat) {i : Nat} {x : Int32} {L' : List (Nat × Value)} (d : decode cc pc = .ok (.istore i, 2)) (hn : ∀ K2 : Kt, K = K2 → i < K2.2.2.2.2.2.2.2.2.2.2.1) (hl : (i, Value.int x) :: L.filter (fun q => !(q.1 == i) && !(q.1 + 1 == i && q.2.category == 2)) = L') (k : Y K Z prog E σ (pc + 2) L' rest) : Y K Z prog E σ pc L (Value.int x :: rest) := by
  refine Y.of ?_ k
  obtain ⟨p, l, e, R, s, m, args, below, meth, c, nL, Q, ce0, sl0⟩ := K
  obtain ⟨hx, hb, hml, hown, hts, hK, hZ, hlk, hfr, hlo, hzx, hok, hce, hsl⟩ := C
  intro g H locs ls hP hS hl2
  exact lv_istore hx hb d hl2 (hn _ rfl) hl (fun ls2 h2 => g H locs ls2 hP hS h2)

theorem x_lstore_n (C : Fx K Z cc own fr lo) (pc : Nat) {q4 : Fin 4} {i : Nat} {x : Int64} {L' : List (Nat × Value)} (d : decode cc pc = .ok (.lstore_n q4, 1)) (hi : (q4 : Nat) = i) (hn : ∀ K2 : Kt, K = K2 → i + 1 < K2.2.2.2.2.2.2.2.2.2.2.1) (hl : (i, Value.long x) :: L.filter (fun q => !(q.1 == i) && (!(q.1 == i + 1) && !(q.1 + 1 == i && q.2.category == 2))) = L') (k : Y K Z prog E σ (pc + 1) L' rest) : Y K Z prog E σ pc L (Value.long x :: rest) := by
  refine Y.of ?_ k
  obtain ⟨p, l, e, R, s, m, args, below, meth, c, nL, Q, ce0, sl0⟩ := K
  obtain ⟨hx, hb, hml, hown, hts, hK, hZ, hlk, hfr, hlo, hzx, hok, hce, hsl⟩ := C
  intro g H locs ls hP hS hl2
  exact lv_lstore_n hx hb d hi hl2 (hn _ rfl) hl (fun ls2 h2 => g H locs ls2 hP hS h2)

theorem x_lstore (C : Fx K Z cc own fr lo) (pc : Nat) {i : Nat} {x : Int64} {L' : List (Nat × Value)} (d : decode cc pc = .ok (.lstore i, 2)) (hn : ∀ K2 : Kt, K = K2 → i + 1 < K2.2.2.2.2.2.2.2.2.2.2.1) (hl : (i, Value.long x) :: L.filter (fun q => !(q.1 == i) && (!(q.1 == i + 1) && !(q.1 + 1 == i && q.2.category == 2))) = L') (k : Y K Z prog E σ (pc + 2) L' rest) : Y K Z prog E σ pc L (Value.long x :: rest) := by
  refine Y.of ?_ k
  obtain ⟨p, l, e, R, s, m, args, below, meth, c, nL, Q, ce0, sl0⟩ := K
  obtain ⟨hx, hb, hml, hown, hts, hK, hZ, hlk, hfr, hlo, hzx, hok, hce, hsl⟩ := C
  intro g H locs ls hP hS hl2
  exact lv_lstore hx hb d hl2 (hn _ rfl) hl (fun ls2 h2 => g H locs ls2 hP hS h2)

theorem x_astore_n (C : Fx K Z cc own fr lo) (pc : Nat) {q4 : Fin 4} {i : Nat} {x : Nat} {L' : List (Nat × Value)} (d : decode cc pc = .ok (.astore_n q4, 1)) (hi : (q4 : Nat) = i) (hn : ∀ K2 : Kt, K = K2 → i < K2.2.2.2.2.2.2.2.2.2.2.1) (hl : (i, Value.ref x) :: L.filter (fun q => !(q.1 == i) && !(q.1 + 1 == i && q.2.category == 2)) = L') (k : Y K Z prog E σ (pc + 1) L' rest) : Y K Z prog E σ pc L (Value.ref x :: rest) := by
  refine Y.of ?_ k
  obtain ⟨p, l, e, R, s, m, args, below, meth, c, nL, Q, ce0, sl0⟩ := K
  obtain ⟨hx, hb, hml, hown, hts, hK, hZ, hlk, hfr, hlo, hzx, hok, hce, hsl⟩ := C
  intro g H locs ls hP hS hl2
  exact lv_astore_n hx hb d hi hl2 (hn _ rfl) hl (fun ls2 h2 => g H locs ls2 hP hS h2)

theorem x_fstore_n (C : Fx K Z cc own fr lo) (pc : Nat) {q4 : Fin 4} {i : Nat} {x : UInt32} {L' : List (Nat × Value)} (d : decode cc pc = .ok (.fstore_n q4, 1)) (hi : (q4 : Nat) = i) (hn : ∀ K2 : Kt, K = K2 → i < K2.2.2.2.2.2.2.2.2.2.2.1) (hl : (i, Value.float x) :: L.filter (fun q => !(q.1 == i) && !(q.1 + 1 == i && q.2.category == 2)) = L') (k : Y K Z prog E σ (pc + 1) L' rest) : Y K Z prog E σ pc L (Value.float x :: rest) := by
  refine Y.of ?_ k
  obtain ⟨p, l, e, R, s, m, args, below, meth, c, nL, Q, ce0, sl0⟩ := K
  obtain ⟨hx, hb, hml, hown, hts, hK, hZ, hlk, hfr, hlo, hzx, hok, hce, hsl⟩ := C
  intro g H locs ls hP hS hl2
  exact lv_fstore_n hx hb d hi hl2 (hn _ rfl) hl (fun ls2 h2 => g H locs ls2 hP hS h2)

theorem x_iinc (C : Fx K Z cc own fr lo) (pc : Nat) {i : Nat} (j : Nat) {n : Int} {x v : Int32} {L' : List (Nat × Value)} (d : decode cc pc = .ok (.iinc i n, 3)) (hj : L[j]? = some (i, .int x)) (hv : x + Int32.ofInt n = v) (hn : ∀ K2 : Kt, K = K2 → i < K2.2.2.2.2.2.2.2.2.2.2.1) (hl : (i, Value.int v) :: L.filter (fun q => !(q.1 == i) && !(q.1 + 1 == i && q.2.category == 2)) = L') (k : Y K Z prog E σ (pc + 3) L' rest) : Y K Z prog E σ pc L rest := by
  refine Y.of ?_ k
  obtain ⟨p, l, e, R, s, m, args, below, meth, c, nL, Q, ce0, sl0⟩ := K
  obtain ⟨hx, hb, hml, hown, hts, hK, hZ, hlk, hfr, hlo, hzx, hok, hce, hsl⟩ := C
  intro g H locs ls hP hS hl2
  exact lv_iinc hx hb d hl2 hj hv (hn _ rfl) hl (fun ls2 h2 => g H locs ls2 hP hS h2)

theorem x_iadd (C : Fx K Z cc own fr lo) (pc : Nat) {x y : Int32} (d : decode cc pc = .ok (.iadd, 1))  (k : Y K Z prog E σ (pc + 1) L (.int (x + y) :: rest)) : Y K Z prog E σ pc L (.int y :: .int x :: rest) := by
  refine Y.of ?_ k
  obtain ⟨p, l, e, R, s, m, args, below, meth, c, nL, Q, ce0, sl0⟩ := K
  obtain ⟨hx, hb, hml, hown, hts, hK, hZ, hlk, hfr, hlo, hzx, hok, hce, hsl⟩ := C
  intro g H locs ls hP hS hl
  exact lv_iadd hx hb d  (g H locs ls hP hS hl)

theorem x_isub (C : Fx K Z cc own fr lo) (pc : Nat) {x y : Int32} (d : decode cc pc = .ok (.isub, 1))  (k : Y K Z prog E σ (pc + 1) L (.int (x - y) :: rest)) : Y K Z prog E σ pc L (.int y :: .int x :: rest) := by
  refine Y.of ?_ k
  obtain ⟨p, l, e, R, s, m, args, below, meth, c, nL, Q, ce0, sl0⟩ := K
  obtain ⟨hx, hb, hml, hown, hts, hK, hZ, hlk, hfr, hlo, hzx, hok, hce, hsl⟩ := C
  intro g H locs ls hP hS hl
  exact lv_isub hx hb d  (g H locs ls hP hS hl)

theorem x_imul (C : Fx K Z cc own fr lo) (pc : Nat) {x y : Int32} (d : decode cc pc = .ok (.imul, 1))  (k : Y K Z prog E σ (pc + 1) L (.int (x * y) :: rest)) : Y K Z prog E σ pc L (.int y :: .int x :: rest) := by
  refine Y.of ?_ k
  obtain ⟨p, l, e, R, s, m, args, below, meth, c, nL, Q, ce0, sl0⟩ := K
  obtain ⟨hx, hb, hml, hown, hts, hK, hZ, hlk, hfr, hlo, hzx, hok, hce, hsl⟩ := C
  intro g H locs ls hP hS hl
  exact lv_imul hx hb d  (g H locs ls hP hS hl)

theorem x_iand (C : Fx K Z cc own fr lo) (pc : Nat) {x y : Int32} (d : decode cc pc = .ok (.iand, 1))  (k : Y K Z prog E σ (pc + 1) L (.int (x &&& y) :: rest)) : Y K Z prog E σ pc L (.int y :: .int x :: rest) := by
  refine Y.of ?_ k
  obtain ⟨p, l, e, R, s, m, args, below, meth, c, nL, Q, ce0, sl0⟩ := K
  obtain ⟨hx, hb, hml, hown, hts, hK, hZ, hlk, hfr, hlo, hzx, hok, hce, hsl⟩ := C
  intro g H locs ls hP hS hl
  exact lv_iand hx hb d  (g H locs ls hP hS hl)

theorem x_ior (C : Fx K Z cc own fr lo) (pc : Nat) {x y : Int32} (d : decode cc pc = .ok (.ior, 1))  (k : Y K Z prog E σ (pc + 1) L (.int (x ||| y) :: rest)) : Y K Z prog E σ pc L (.int y :: .int x :: rest) := by
  refine Y.of ?_ k
  obtain ⟨p, l, e, R, s, m, args, below, meth, c, nL, Q, ce0, sl0⟩ := K
  obtain ⟨hx, hb, hml, hown, hts, hK, hZ, hlk, hfr, hlo, hzx, hok, hce, hsl⟩ := C
  intro g H locs ls hP hS hl
  exact lv_ior hx hb d  (g H locs ls hP hS hl)

theorem x_ixor (C : Fx K Z cc own fr lo) (pc : Nat) {x y : Int32} (d : decode cc pc = .ok (.ixor, 1))  (k : Y K Z prog E σ (pc + 1) L (.int (x ^^^ y) :: rest)) : Y K Z prog E σ pc L (.int y :: .int x :: rest) := by
  refine Y.of ?_ k
  obtain ⟨p, l, e, R, s, m, args, below, meth, c, nL, Q, ce0, sl0⟩ := K
  obtain ⟨hx, hb, hml, hown, hts, hK, hZ, hlk, hfr, hlo, hzx, hok, hce, hsl⟩ := C
  intro g H locs ls hP hS hl
  exact lv_ixor hx hb d  (g H locs ls hP hS hl)

theorem x_ishl (C : Fx K Z cc own fr lo) (pc : Nat) {x y : Int32} (d : decode cc pc = .ok (.ishl, 1))  (k : Y K Z prog E σ (pc + 1) L (.int (x <<< (y &&& 31)) :: rest)) : Y K Z prog E σ pc L (.int y :: .int x :: rest) := by
  refine Y.of ?_ k
  obtain ⟨p, l, e, R, s, m, args, below, meth, c, nL, Q, ce0, sl0⟩ := K
  obtain ⟨hx, hb, hml, hown, hts, hK, hZ, hlk, hfr, hlo, hzx, hok, hce, hsl⟩ := C
  intro g H locs ls hP hS hl
  exact lv_ishl hx hb d  (g H locs ls hP hS hl)

theorem x_ishr (C : Fx K Z cc own fr lo) (pc : Nat) {x y : Int32} (d : decode cc pc = .ok (.ishr, 1))  (k : Y K Z prog E σ (pc + 1) L (.int (x >>> (y &&& 31)) :: rest)) : Y K Z prog E σ pc L (.int y :: .int x :: rest) := by
  refine Y.of ?_ k
  obtain ⟨p, l, e, R, s, m, args, below, meth, c, nL, Q, ce0, sl0⟩ := K
  obtain ⟨hx, hb, hml, hown, hts, hK, hZ, hlk, hfr, hlo, hzx, hok, hce, hsl⟩ := C
  intro g H locs ls hP hS hl
  exact lv_ishr hx hb d  (g H locs ls hP hS hl)

theorem x_iushr (C : Fx K Z cc own fr lo) (pc : Nat) {x y : Int32} (d : decode cc pc = .ok (.iushr, 1))  (k : Y K Z prog E σ (pc + 1) L (.int ((x.toUInt32 >>> (y.toUInt32 &&& Int32.toUInt32 31)).toInt32) :: rest)) : Y K Z prog E σ pc L (.int y :: .int x :: rest) := by
  refine Y.of ?_ k
  obtain ⟨p, l, e, R, s, m, args, below, meth, c, nL, Q, ce0, sl0⟩ := K
  obtain ⟨hx, hb, hml, hown, hts, hK, hZ, hlk, hfr, hlo, hzx, hok, hce, hsl⟩ := C
  intro g H locs ls hP hS hl
  exact lv_iushr hx hb d rfl (g H locs ls hP hS hl)

theorem x_ineg (C : Fx K Z cc own fr lo) (pc : Nat) {x : Int32} (d : decode cc pc = .ok (.ineg, 1))  (k : Y K Z prog E σ (pc + 1) L (.int (-x) :: rest)) : Y K Z prog E σ pc L (.int x :: rest) := by
  refine Y.of ?_ k
  obtain ⟨p, l, e, R, s, m, args, below, meth, c, nL, Q, ce0, sl0⟩ := K
  obtain ⟨hx, hb, hml, hown, hts, hK, hZ, hlk, hfr, hlo, hzx, hok, hce, hsl⟩ := C
  intro g H locs ls hP hS hl
  exact lv_ineg hx hb d  (g H locs ls hP hS hl)

theorem x_ladd (C : Fx K Z cc own fr lo) (pc : Nat) {x y : Int64} (d : decode cc pc = .ok (.ladd, 1))  (k : Y K Z prog E σ (pc + 1) L (.long (x + y) :: rest)) : Y K Z prog E σ pc L (.long y :: .long x :: rest) := by
  refine Y.of ?_ k
  obtain ⟨p, l, e, R, s, m, args, below, meth, c, nL, Q, ce0, sl0⟩ := K
  obtain ⟨hx, hb, hml, hown, hts, hK, hZ, hlk, hfr, hlo, hzx, hok, hce, hsl⟩ := C
  intro g H locs ls hP hS hl
  exact lv_ladd hx hb d  (g H locs ls hP hS hl)

theorem x_lmul (C : Fx K Z cc own fr lo) (pc : Nat) {x y : Int64} (d : decode cc pc = .ok (.lmul, 1))  (k : Y K Z prog E σ (pc + 1) L (.long (x * y) :: rest)) : Y K Z prog E σ pc L (.long y :: .long x :: rest) := by
  refine Y.of ?_ k
  obtain ⟨p, l, e, R, s, m, args, below, meth, c, nL, Q, ce0, sl0⟩ := K
  obtain ⟨hx, hb, hml, hown, hts, hK, hZ, hlk, hfr, hlo, hzx, hok, hce, hsl⟩ := C
  intro g H locs ls hP hS hl
  exact lv_lmul hx hb d  (g H locs ls hP hS hl)

theorem x_land (C : Fx K Z cc own fr lo) (pc : Nat) {x y : Int64} (d : decode cc pc = .ok (.land, 1))  (k : Y K Z prog E σ (pc + 1) L (.long (x &&& y) :: rest)) : Y K Z prog E σ pc L (.long y :: .long x :: rest) := by
  refine Y.of ?_ k
  obtain ⟨p, l, e, R, s, m, args, below, meth, c, nL, Q, ce0, sl0⟩ := K
  obtain ⟨hx, hb, hml, hown, hts, hK, hZ, hlk, hfr, hlo, hzx, hok, hce, hsl⟩ := C
  intro g H locs ls hP hS hl
  exact lv_land hx hb d  (g H locs ls hP hS hl)

theorem x_lor (C : Fx K Z cc own fr lo) (pc : Nat) {x y : Int64} (d : decode cc pc = .ok (.lor, 1))  (k : Y K Z prog E σ (pc + 1) L (.long (x ||| y) :: rest)) : Y K Z prog E σ pc L (.long y :: .long x :: rest) := by
  refine Y.of ?_ k
  obtain ⟨p, l, e, R, s, m, args, below, meth, c, nL, Q, ce0, sl0⟩ := K
  obtain ⟨hx, hb, hml, hown, hts, hK, hZ, hlk, hfr, hlo, hzx, hok, hce, hsl⟩ := C
  intro g H locs ls hP hS hl
  exact lv_lor hx hb d  (g H locs ls hP hS hl)

theorem x_lxor (C : Fx K Z cc own fr lo) (pc : Nat) {x y : Int64} (d : decode cc pc = .ok (.lxor, 1))  (k : Y K Z prog E σ (pc + 1) L (.long (x ^^^ y) :: rest)) : Y K Z prog E σ pc L (.long y :: .long x :: rest) := by
  refine Y.of ?_ k
  obtain ⟨p, l, e, R, s, m, args, below, meth, c, nL, Q, ce0, sl0⟩ := K
  obtain ⟨hx, hb, hml, hown, hts, hK, hZ, hlk, hfr, hlo, hzx, hok, hce, hsl⟩ := C
  intro g H locs ls hP hS hl
  exact lv_lxor hx hb d  (g H locs ls hP hS hl)

theorem x_lshl (C : Fx K Z cc own fr lo) (pc : Nat) {x : Int64} {y : Int32} (d : decode cc pc = .ok (.lshl, 1))  (k : Y K Z prog E σ (pc + 1) L (.long (x <<< (y.toInt64 &&& 63)) :: rest)) : Y K Z prog E σ pc L (.int y :: .long x :: rest) := by
  refine Y.of ?_ k
  obtain ⟨p, l, e, R, s, m, args, below, meth, c, nL, Q, ce0, sl0⟩ := K
  obtain ⟨hx, hb, hml, hown, hts, hK, hZ, hlk, hfr, hlo, hzx, hok, hce, hsl⟩ := C
  intro g H locs ls hP hS hl
  exact lv_lshl hx hb d rfl (g H locs ls hP hS hl)

theorem x_lshr (C : Fx K Z cc own fr lo) (pc : Nat) {x : Int64} {y : Int32} (d : decode cc pc = .ok (.lshr, 1))  (k : Y K Z prog E σ (pc + 1) L (.long (x >>> (y.toInt64 &&& 63)) :: rest)) : Y K Z prog E σ pc L (.int y :: .long x :: rest) := by
  refine Y.of ?_ k
  obtain ⟨p, l, e, R, s, m, args, below, meth, c, nL, Q, ce0, sl0⟩ := K
  obtain ⟨hx, hb, hml, hown, hts, hK, hZ, hlk, hfr, hlo, hzx, hok, hce, hsl⟩ := C
  intro g H locs ls hP hS hl
  exact lv_lshr hx hb d rfl (g H locs ls hP hS hl)

theorem x_i2l (C : Fx K Z cc own fr lo) (pc : Nat) {x : Int32} (d : decode cc pc = .ok (.i2l, 1))  (k : Y K Z prog E σ (pc + 1) L (.long x.toInt64 :: rest)) : Y K Z prog E σ pc L (.int x :: rest) := by
  refine Y.of ?_ k
  obtain ⟨p, l, e, R, s, m, args, below, meth, c, nL, Q, ce0, sl0⟩ := K
  obtain ⟨hx, hb, hml, hown, hts, hK, hZ, hlk, hfr, hlo, hzx, hok, hce, hsl⟩ := C
  intro g H locs ls hP hS hl
  exact lv_i2l hx hb d rfl (g H locs ls hP hS hl)

theorem x_l2i (C : Fx K Z cc own fr lo) (pc : Nat) {x : Int64} (d : decode cc pc = .ok (.l2i, 1))  (k : Y K Z prog E σ (pc + 1) L (.int x.toInt32 :: rest)) : Y K Z prog E σ pc L (.long x :: rest) := by
  refine Y.of ?_ k
  obtain ⟨p, l, e, R, s, m, args, below, meth, c, nL, Q, ce0, sl0⟩ := K
  obtain ⟨hx, hb, hml, hown, hts, hK, hZ, hlk, hfr, hlo, hzx, hok, hce, hsl⟩ := C
  intro g H locs ls hP hS hl
  exact lv_l2i hx hb d rfl (g H locs ls hP hS hl)

theorem x_i2b (C : Fx K Z cc own fr lo) (pc : Nat) {x : Int32} (d : decode cc pc = .ok (.i2b, 1))  (k : Y K Z prog E σ (pc + 1) L (.int x.toInt8.toInt32 :: rest)) : Y K Z prog E σ pc L (.int x :: rest) := by
  refine Y.of ?_ k
  obtain ⟨p, l, e, R, s, m, args, below, meth, c, nL, Q, ce0, sl0⟩ := K
  obtain ⟨hx, hb, hml, hown, hts, hK, hZ, hlk, hfr, hlo, hzx, hok, hce, hsl⟩ := C
  intro g H locs ls hP hS hl
  exact lv_i2b hx hb d rfl (g H locs ls hP hS hl)

theorem x_i2c (C : Fx K Z cc own fr lo) (pc : Nat) {x : Int32} (d : decode cc pc = .ok (.i2c, 1))  (k : Y K Z prog E σ (pc + 1) L (.int (x.toUInt32 % 65536).toInt32 :: rest)) : Y K Z prog E σ pc L (.int x :: rest) := by
  refine Y.of ?_ k
  obtain ⟨p, l, e, R, s, m, args, below, meth, c, nL, Q, ce0, sl0⟩ := K
  obtain ⟨hx, hb, hml, hown, hts, hK, hZ, hlk, hfr, hlo, hzx, hok, hce, hsl⟩ := C
  intro g H locs ls hP hS hl
  exact lv_i2c hx hb d rfl (g H locs ls hP hS hl)

theorem x_i2f (C : Fx K Z cc own fr lo) (pc : Nat) {x : Int32} (d : decode cc pc = .ok (.i2f, 1))  (k : Y K Z prog E σ (pc + 1) L (.float (FP.i2f x) :: rest)) : Y K Z prog E σ pc L (.int x :: rest) := by
  refine Y.of ?_ k
  obtain ⟨p, l, e, R, s, m, args, below, meth, c, nL, Q, ce0, sl0⟩ := K
  obtain ⟨hx, hb, hml, hown, hts, hK, hZ, hlk, hfr, hlo, hzx, hok, hce, hsl⟩ := C
  intro g H locs ls hP hS hl
  exact lv_i2f hx hb d  (g H locs ls hP hS hl)

theorem x_f2i (C : Fx K Z cc own fr lo) (pc : Nat) {x : UInt32} (d : decode cc pc = .ok (.f2i, 1))  (k : Y K Z prog E σ (pc + 1) L (.int (FP.f2i x) :: rest)) : Y K Z prog E σ pc L (.float x :: rest) := by
  refine Y.of ?_ k
  obtain ⟨p, l, e, R, s, m, args, below, meth, c, nL, Q, ce0, sl0⟩ := K
  obtain ⟨hx, hb, hml, hown, hts, hK, hZ, hlk, hfr, hlo, hzx, hok, hce, hsl⟩ := C
  intro g H locs ls hP hS hl
  exact lv_f2i hx hb d  (g H locs ls hP hS hl)

theorem x_fmul (C : Fx K Z cc own fr lo) (pc : Nat) {x y : UInt32} (d : decode cc pc = .ok (.fmul, 1)) (hne : nn32 (FP.fmul x y)) (k : Y K Z prog E σ (pc + 1) L (.float (FP.fmul x y) :: rest)) : Y K Z prog E σ pc L (.float y :: .float x :: rest) := by
  refine Y.of ?_ k
  obtain ⟨p, l, e, R, s, m, args, below, meth, c, nL, Q, ce0, sl0⟩ := K
  obtain ⟨hx, hb, hml, hown, hts, hK, hZ, hlk, hfr, hlo, hzx, hok, hce, hsl⟩ := C
  intro g H locs ls hP hS hl
  exact lv_fmul hx hb d hne (g H locs ls hP hS hl)

theorem x_fdiv (C : Fx K Z cc own fr lo) (pc : Nat) {x y : UInt32} (d : decode cc pc = .ok (.fdiv, 1)) (hne : nn32 (FP.fdiv x y)) (k : Y K Z prog E σ (pc + 1) L (.float (FP.fdiv x y) :: rest)) : Y K Z prog E σ pc L (.float y :: .float x :: rest) := by
  refine Y.of ?_ k
  obtain ⟨p, l, e, R, s, m, args, below, meth, c, nL, Q, ce0, sl0⟩ := K
  obtain ⟨hx, hb, hml, hown, hts, hK, hZ, hlk, hfr, hlo, hzx, hok, hce, hsl⟩ := C
  intro g H locs ls hP hS hl
  exact lv_fdiv hx hb d hne (g H locs ls hP hS hl)

theorem x_lcmp (C : Fx K Z cc own fr lo) (pc : Nat) {x y : Int64} (d : decode cc pc = .ok (.lcmp, 1))  (k : Y K Z prog E σ (pc + 1) L (.int (lg_cmp x y) :: rest)) : Y K Z prog E σ pc L (.long y :: .long x :: rest) := by
  refine Y.of ?_ k
  obtain ⟨p, l, e, R, s, m, args, below, meth, c, nL, Q, ce0, sl0⟩ := K
  obtain ⟨hx, hb, hml, hown, hts, hK, hZ, hlk, hfr, hlo, hzx, hok, hce, hsl⟩ := C
  intro g H locs ls hP hS hl
  exact W.lcmp hx hb d  (g H locs ls hP hS hl)

theorem x_dup (C : Fx K Z cc own fr lo) (pc : Nat) {v : Value} (d : decode cc pc = .ok (.dup, 1)) (hv : v.category = 1) (k : Y K Z prog E σ (pc + 1) L (v :: v :: rest)) : Y K Z prog E σ pc L (v :: rest) := by
  refine Y.of ?_ k
  obtain ⟨p, l, e, R, s, m, args, below, meth, c, nL, Q, ce0, sl0⟩ := K
  obtain ⟨hx, hb, hml, hown, hts, hK, hZ, hlk, hfr, hlo, hzx, hok, hce, hsl⟩ := C
  intro g H locs ls hP hS hl
  exact lv_dup hx hb d hv (g H locs ls hP hS hl)

theorem x_dup2 (C : Fx K Z cc own fr lo) (pc : Nat) {v w : Value} (d : decode cc pc = .ok (.dup2, 1)) (hv : v.category = 1) (hw : w.category = 1) (k : Y K Z prog E σ (pc + 1) L (v :: w :: v :: w :: rest)) : Y K Z prog E σ pc L (v :: w :: rest) := by
  refine Y.of ?_ k
  obtain ⟨p, l, e, R, s, m, args, below, meth, c, nL, Q, ce0, sl0⟩ := K
  obtain ⟨hx, hb, hml, hown, hts, hK, hZ, hlk, hfr, hlo, hzx, hok, hce, hsl⟩ := C
  intro g H locs ls hP hS hl
  exact lv_dup2_11 hx hb d hv hw (g H locs ls hP hS hl)

theorem x_pop (C : Fx K Z cc own fr lo) (pc : Nat) {v : Value} (d : decode cc pc = .ok (.pop, 1)) (hv : v.category = 1) (k : Y K Z prog E σ (pc + 1) L (rest)) : Y K Z prog E σ pc L (v :: rest) := by
  refine Y.of ?_ k
  obtain ⟨p, l, e, R, s, m, args, below, meth, c, nL, Q, ce0, sl0⟩ := K
  obtain ⟨hx, hb, hml, hown, hts, hK, hZ, hlk, hfr, hlo, hzx, hok, hce, hsl⟩ := C
  intro g H locs ls hP hS hl
  exact lv_pop hx hb d hv (g H locs ls hP hS hl)

theorem x_idiv (C : Fx K Z cc own fr lo) (pc : Nat) {x y : Int32} (d : decode cc pc = .ok (.idiv, 1)) (hne : ¬ y = 0) (k : Y K Z prog E σ (pc + 1) L (.int (x / y) :: rest)) : Y K Z prog E σ pc L (.int y :: .int x :: rest) := by
  refine Y.of ?_ k
  obtain ⟨p, l, e, R, s, m, args, below, meth, c, nL, Q, ce0, sl0⟩ := K
  obtain ⟨hx, hb, hml, hown, hts, hK, hZ, hlk, hfr, hlo, hzx, hok, hce, hsl⟩ := C
  intro g H locs ls hP hS hl
  exact lv_idiv hx hb d hne (g H locs ls hP hS hl)

theorem x_irem (C : Fx K Z cc own fr lo) (pc : Nat) {x y : Int32} (d : decode cc pc = .ok (.irem, 1)) (hne : ¬ y = 0) (k : Y K Z prog E σ (pc + 1) L (.int (x - x / y * y) :: rest)) : Y K Z prog E σ pc L (.int y :: .int x :: rest) := by
  refine Y.of ?_ k
  obtain ⟨p, l, e, R, s, m, args, below, meth, c, nL, Q, ce0, sl0⟩ := K
  obtain ⟨hx, hb, hml, hown, hts, hK, hZ, hlk, hfr, hlo, hzx, hok, hce, hsl⟩ := C
  intro g H locs ls hP hS hl
  exact lv_irem hx hb d hne (g H locs ls hP hS hl)

theorem x_goto (C : Fx K Z cc own fr lo) (pc tgt : Nat) {off : Int} (d : decode cc pc = .ok (.goto off, 3)) (ht : (pc : Int) + off = (tgt : Int)) (k : Y K Z prog E σ tgt L rest) : Y K Z prog E σ pc L rest := by
  refine Y.of ?_ k
  obtain ⟨p, l, e, R, s, m, args, below, meth, c, nL, Q, ce0, sl0⟩ := K
  obtain ⟨hx, hb, hml, hown, hts, hK, hZ, hlk, hfr, hlo, hzx, hok, hce, hsl⟩ := C
  intro g H locs ls hP hS hl
  exact lv_goto hx hb d ht (g H locs ls hP hS hl)

theorem x_icmp_eq (C : Fx K Z cc own fr lo) (pc tgt : Nat) {x y : Int32} {off : Int} (d : decode cc pc = .ok (.if_icmp .eq off, 3)) (ht : (pc : Int) + off = (tgt : Int)) [hd : Decidable (x = y)] (kt : x = y → Y K Z progA E σ tgt L rest) (kf : ¬ (x = y) → Y K Z progB E σ (pc + 3) L rest) : Y K Z (@ite _ (x = y) hd progA progB) E σ pc L (.int y :: .int x :: rest) := by
  intro q h1 h2
  by_cases hc : x = y
  · rw [if_pos hc] at h1
    have g := kt hc q h1 h2
    obtain ⟨p, l, e, R, s, m, args, below, meth, c, nL, Q, ce0, sl0⟩ := K
    obtain ⟨hx, hb, hml, hown, hts, hK, hZ, hlk, hfr, hlo, hzx, hok, hce, hsl⟩ := C
    intro H locs ls hP hS hl
    exact lv_icmp_eq hx hb d ht (fun _ => g H locs ls hP hS hl) (fun hn => absurd hc hn)
  · rw [if_neg hc] at h1
    have g := kf hc q h1 h2
    obtain ⟨p, l, e, R, s, m, args, below, meth, c, nL, Q, ce0, sl0⟩ := K
    obtain ⟨hx, hb, hml, hown, hts, hK, hZ, hlk, hfr, hlo, hzx, hok, hce, hsl⟩ := C
    intro H locs ls hP hS hl
    exact lv_icmp_eq hx hb d ht (fun hn => absurd hn hc) (fun _ => g H locs ls hP hS hl)

theorem x_if_eq (C : Fx K Z cc own fr lo) (pc tgt : Nat) {x : Int32} {off : Int} (d : decode cc pc = .ok (.ifCond .eq off, 3)) (ht : (pc : Int) + off = (tgt : Int)) [hd : Decidable (x = 0)] (kt : x = 0 → Y K Z progA E σ tgt L rest) (kf : ¬ (x = 0) → Y K Z progB E σ (pc + 3) L rest) : Y K Z (@ite _ (x = 0) hd progA progB) E σ pc L (.int x :: rest) := by
  intro q h1 h2
  by_cases hc : x = 0
  · rw [if_pos hc] at h1
    have g := kt hc q h1 h2
    obtain ⟨p, l, e, R, s, m, args, below, meth, c, nL, Q, ce0, sl0⟩ := K
    obtain ⟨hx, hb, hml, hown, hts, hK, hZ, hlk, hfr, hlo, hzx, hok, hce, hsl⟩ := C
    intro H locs ls hP hS hl
    exact lv_if_eq hx hb d ht (fun _ => g H locs ls hP hS hl) (fun hn => absurd hc hn)
  · rw [if_neg hc] at h1
    have g := kf hc q h1 h2
    obtain ⟨p, l, e, R, s, m, args, below, meth, c, nL, Q, ce0, sl0⟩ := K
    obtain ⟨hx, hb, hml, hown, hts, hK, hZ, hlk, hfr, hlo, hzx, hok, hce, hsl⟩ := C
    intro H locs ls hP hS hl
    exact lv_if_eq hx hb d ht (fun hn => absurd hn hc) (fun _ => g H locs ls hP hS hl)

theorem x_icmp_ne (C : Fx K Z cc own fr lo) (pc tgt : Nat) {x y : Int32} {off : Int} (d : decode cc pc = .ok (.if_icmp .ne off, 3)) (ht : (pc : Int) + off = (tgt : Int)) [hd : Decidable (x ≠ y)] (kt : x ≠ y → Y K Z progA E σ tgt L rest) (kf : ¬ (x ≠ y) → Y K Z progB E σ (pc + 3) L rest) : Y K Z (@ite _ (x ≠ y) hd progA progB) E σ pc L (.int y :: .int x :: rest) := by
  intro q h1 h2
  by_cases hc : x ≠ y
  · rw [if_pos hc] at h1
    have g := kt hc q h1 h2
    obtain ⟨p, l, e, R, s, m, args, below, meth, c, nL, Q, ce0, sl0⟩ := K
    obtain ⟨hx, hb, hml, hown, hts, hK, hZ, hlk, hfr, hlo, hzx, hok, hce, hsl⟩ := C
    intro H locs ls hP hS hl
    exact lv_icmp_ne hx hb d ht (fun _ => g H locs ls hP hS hl) (fun hn => absurd hn hc)
  · rw [if_neg hc] at h1
    have g := kf hc q h1 h2
    obtain ⟨p, l, e, R, s, m, args, below, meth, c, nL, Q, ce0, sl0⟩ := K
    obtain ⟨hx, hb, hml, hown, hts, hK, hZ, hlk, hfr, hlo, hzx, hok, hce, hsl⟩ := C
    intro H locs ls hP hS hl
    exact lv_icmp_ne hx hb d ht (fun hn => absurd hn hc) (fun _ => g H locs ls hP hS hl)

theorem x_if_ne (C : Fx K Z cc own fr lo) (pc tgt : Nat) {x : Int32} {off : Int} (d : decode cc pc = .ok (.ifCond .ne off, 3)) (ht : (pc : Int) + off = (tgt : Int)) [hd : Decidable (x ≠ 0)] (kt : x ≠ 0 → Y K Z progA E σ tgt L rest) (kf : ¬ (x ≠ 0) → Y K Z progB E σ (pc + 3) L rest) : Y K Z (@ite _ (x ≠ 0) hd progA progB) E σ pc L (.int x :: rest) := by
  intro q h1 h2
  by_cases hc : x ≠ 0
  · rw [if_pos hc] at h1
    have g := kt hc q h1 h2
    obtain ⟨p, l, e, R, s, m, args, below, meth, c, nL, Q, ce0, sl0⟩ := K
    obtain ⟨hx, hb, hml, hown, hts, hK, hZ, hlk, hfr, hlo, hzx, hok, hce, hsl⟩ := C
    intro H locs ls hP hS hl
    exact lv_if_ne hx hb d ht (fun _ => g H locs ls hP hS hl) (fun hn => absurd hn hc)
  · rw [if_neg hc] at h1
    have g := kf hc q h1 h2
    obtain ⟨p, l, e, R, s, m, args, below, meth, c, nL, Q, ce0, sl0⟩ := K
    obtain ⟨hx, hb, hml, hown, hts, hK, hZ, hlk, hfr, hlo, hzx, hok, hce, hsl⟩ := C
    intro H locs ls hP hS hl
    exact lv_if_ne hx hb d ht (fun hn => absurd hn hc) (fun _ => g H locs ls hP hS hl)

theorem x_icmp_lt (C : Fx K Z cc own fr lo) (pc tgt : Nat) {x y : Int32} {off : Int} (d : decode cc pc = .ok (.if_icmp .lt off, 3)) (ht : (pc : Int) + off = (tgt : Int)) [hd : Decidable (x < y)] (kt : x < y → Y K Z progA E σ tgt L rest) (kf : ¬ (x < y) → Y K Z progB E σ (pc + 3) L rest) : Y K Z (@ite _ (x < y) hd progA progB) E σ pc L (.int y :: .int x :: rest) := by
  intro q h1 h2
  by_cases hc : x < y
  · rw [if_pos hc] at h1
    have g := kt hc q h1 h2
    obtain ⟨p, l, e, R, s, m, args, below, meth, c, nL, Q, ce0, sl0⟩ := K
    obtain ⟨hx, hb, hml, hown, hts, hK, hZ, hlk, hfr, hlo, hzx, hok, hce, hsl⟩ := C
    intro H locs ls hP hS hl
    exact lv_icmp_lt hx hb d ht (fun _ => g H locs ls hP hS hl) (fun hn => absurd hc hn)
  · rw [if_neg hc] at h1
    have g := kf hc q h1 h2
    obtain ⟨p, l, e, R, s, m, args, below, meth, c, nL, Q, ce0, sl0⟩ := K
    obtain ⟨hx, hb, hml, hown, hts, hK, hZ, hlk, hfr, hlo, hzx, hok, hce, hsl⟩ := C
    intro H locs ls hP hS hl
    exact lv_icmp_lt hx hb d ht (fun hn => absurd hn hc) (fun _ => g H locs ls hP hS hl)

theorem x_if_lt (C : Fx K Z cc own fr lo) (pc tgt : Nat) {x : Int32} {off : Int} (d : decode cc pc = .ok (.ifCond .lt off, 3)) (ht : (pc : Int) + off = (tgt : Int)) [hd : Decidable (x < 0)] (kt : x < 0 → Y K Z progA E σ tgt L rest) (kf : ¬ (x < 0) → Y K Z progB E σ (pc + 3) L rest) : Y K Z (@ite _ (x < 0) hd progA progB) E σ pc L (.int x :: rest) := by
  intro q h1 h2
  by_cases hc : x < 0
  · rw [if_pos hc] at h1
    have g := kt hc q h1 h2
    obtain ⟨p, l, e, R, s, m, args, below, meth, c, nL, Q, ce0, sl0⟩ := K
    obtain ⟨hx, hb, hml, hown, hts, hK, hZ, hlk, hfr, hlo, hzx, hok, hce, hsl⟩ := C
    intro H locs ls hP hS hl
    exact lv_if_lt hx hb d ht (fun _ => g H locs ls hP hS hl) (fun hn => absurd hc hn)
  · rw [if_neg hc] at h1
    have g := kf hc q h1 h2
    obtain ⟨p, l, e, R, s, m, args, below, meth, c, nL, Q, ce0, sl0⟩ := K
    obtain ⟨hx, hb, hml, hown, hts, hK, hZ, hlk, hfr, hlo, hzx, hok, hce, hsl⟩ := C
    intro H locs ls hP hS hl
    exact lv_if_lt hx hb d ht (fun hn => absurd hn hc) (fun _ => g H locs ls hP hS hl)

theorem x_icmp_ge (C : Fx K Z cc own fr lo) (pc tgt : Nat) {x y : Int32} {off : Int} (d : decode cc pc = .ok (.if_icmp .ge off, 3)) (ht : (pc : Int) + off = (tgt : Int)) [hd : Decidable (y ≤ x)] (kt : y ≤ x → Y K Z progA E σ tgt L rest) (kf : ¬ (y ≤ x) → Y K Z progB E σ (pc + 3) L rest) : Y K Z (@ite _ (y ≤ x) hd progA progB) E σ pc L (.int y :: .int x :: rest) := by
  intro q h1 h2
  by_cases hc : y ≤ x
  · rw [if_pos hc] at h1
    have g := kt hc q h1 h2
    obtain ⟨p, l, e, R, s, m, args, below, meth, c, nL, Q, ce0, sl0⟩ := K
    obtain ⟨hx, hb, hml, hown, hts, hK, hZ, hlk, hfr, hlo, hzx, hok, hce, hsl⟩ := C
    intro H locs ls hP hS hl
    exact lv_icmp_ge hx hb d ht (fun _ => g H locs ls hP hS hl) (fun hn => absurd hc hn)
  · rw [if_neg hc] at h1
    have g := kf hc q h1 h2
    obtain ⟨p, l, e, R, s, m, args, below, meth, c, nL, Q, ce0, sl0⟩ := K
    obtain ⟨hx, hb, hml, hown, hts, hK, hZ, hlk, hfr, hlo, hzx, hok, hce, hsl⟩ := C
    intro H locs ls hP hS hl
    exact lv_icmp_ge hx hb d ht (fun hn => absurd hn hc) (fun _ => g H locs ls hP hS hl)

theorem x_if_ge (C : Fx K Z cc own fr lo) (pc tgt : Nat) {x : Int32} {off : Int} (d : decode cc pc = .ok (.ifCond .ge off, 3)) (ht : (pc : Int) + off = (tgt : Int)) [hd : Decidable (0 ≤ x)] (kt : 0 ≤ x → Y K Z progA E σ tgt L rest) (kf : ¬ (0 ≤ x) → Y K Z progB E σ (pc + 3) L rest) : Y K Z (@ite _ (0 ≤ x) hd progA progB) E σ pc L (.int x :: rest) := by
  intro q h1 h2
  by_cases hc : 0 ≤ x
  · rw [if_pos hc] at h1
    have g := kt hc q h1 h2
    obtain ⟨p, l, e, R, s, m, args, below, meth, c, nL, Q, ce0, sl0⟩ := K
    obtain ⟨hx, hb, hml, hown, hts, hK, hZ, hlk, hfr, hlo, hzx, hok, hce, hsl⟩ := C
    intro H locs ls hP hS hl
    exact lv_if_ge hx hb d ht (fun _ => g H locs ls hP hS hl) (fun hn => absurd hc hn)
  · rw [if_neg hc] at h1
    have g := kf hc q h1 h2
    obtain ⟨p, l, e, R, s, m, args, below, meth, c, nL, Q, ce0, sl0⟩ := K
    obtain ⟨hx, hb, hml, hown, hts, hK, hZ, hlk, hfr, hlo, hzx, hok, hce, hsl⟩ := C
    intro H locs ls hP hS hl
    exact lv_if_ge hx hb d ht (fun hn => absurd hn hc) (fun _ => g H locs ls hP hS hl)

theorem x_icmp_gt (C : Fx K Z cc own fr lo) (pc tgt : Nat) {x y : Int32} {off : Int} (d : decode cc pc = .ok (.if_icmp .gt off, 3)) (ht : (pc : Int) + off = (tgt : Int)) [hd : Decidable (y < x)] (kt : y < x → Y K Z progA E σ tgt L rest) (kf : ¬ (y < x) → Y K Z progB E σ (pc + 3) L rest) : Y K Z (@ite _ (y < x) hd progA progB) E σ pc L (.int y :: .int x :: rest) := by
  intro q h1 h2
  by_cases hc : y < x
  · rw [if_pos hc] at h1
    have g := kt hc q h1 h2
    obtain ⟨p, l, e, R, s, m, args, below, meth, c, nL, Q, ce0, sl0⟩ := K
    obtain ⟨hx, hb, hml, hown, hts, hK, hZ, hlk, hfr, hlo, hzx, hok, hce, hsl⟩ := C
    intro H locs ls hP hS hl
    exact lv_icmp_gt hx hb d ht (fun _ => g H locs ls hP hS hl) (fun hn => absurd hc hn)
  · rw [if_neg hc] at h1
    have g := kf hc q h1 h2
    obtain ⟨p, l, e, R, s, m, args, below, meth, c, nL, Q, ce0, sl0⟩ := K
    obtain ⟨hx, hb, hml, hown, hts, hK, hZ, hlk, hfr, hlo, hzx, hok, hce, hsl⟩ := C
    intro H locs ls hP hS hl
    exact lv_icmp_gt hx hb d ht (fun hn => absurd hn hc) (fun _ => g H locs ls hP hS hl)

theorem x_if_gt (C : Fx K Z cc own fr lo) (pc tgt : Nat) {x : Int32} {off : Int} (d : decode cc pc = .ok (.ifCond .gt off, 3)) (ht : (pc : Int) + off = (tgt : Int)) [hd : Decidable (0 < x)] (kt : 0 < x → Y K Z progA E σ tgt L rest) (kf : ¬ (0 < x) → Y K Z progB E σ (pc + 3) L rest) : Y K Z (@ite _ (0 < x) hd progA progB) E σ pc L (.int x :: rest) := by
  intro q h1 h2
  by_cases hc : 0 < x
  · rw [if_pos hc] at h1
    have g := kt hc q h1 h2
    obtain ⟨p, l, e, R, s, m, args, below, meth, c, nL, Q, ce0, sl0⟩ := K
    obtain ⟨hx, hb, hml, hown, hts, hK, hZ, hlk, hfr, hlo, hzx, hok, hce, hsl⟩ := C
    intro H locs ls hP hS hl
    exact lv_if_gt hx hb d ht (fun _ => g H locs ls hP hS hl) (fun hn => absurd hc hn)
  · rw [if_neg hc] at h1
    have g := kf hc q h1 h2
    obtain ⟨p, l, e, R, s, m, args, below, meth, c, nL, Q, ce0, sl0⟩ := K
    obtain ⟨hx, hb, hml, hown, hts, hK, hZ, hlk, hfr, hlo, hzx, hok, hce, hsl⟩ := C
    intro H locs ls hP hS hl
    exact lv_if_gt hx hb d ht (fun hn => absurd hn hc) (fun _ => g H locs ls hP hS hl)

theorem x_icmp_le (C : Fx K Z cc own fr lo) (pc tgt : Nat) {x y : Int32} {off : Int} (d : decode cc pc = .ok (.if_icmp .le off, 3)) (ht : (pc : Int) + off = (tgt : Int)) [hd : Decidable (x ≤ y)] (kt : x ≤ y → Y K Z progA E σ tgt L rest) (kf : ¬ (x ≤ y) → Y K Z progB E σ (pc + 3) L rest) : Y K Z (@ite _ (x ≤ y) hd progA progB) E σ pc L (.int y :: .int x :: rest) := by
  intro q h1 h2
  by_cases hc : x ≤ y
  · rw [if_pos hc] at h1
    have g := kt hc q h1 h2
    obtain ⟨p, l, e, R, s, m, args, below, meth, c, nL, Q, ce0, sl0⟩ := K
    obtain ⟨hx, hb, hml, hown, hts, hK, hZ, hlk, hfr, hlo, hzx, hok, hce, hsl⟩ := C
    intro H locs ls hP hS hl
    exact lv_icmp_le hx hb d ht (fun _ => g H locs ls hP hS hl) (fun hn => absurd hc hn)
  · rw [if_neg hc] at h1
    have g := kf hc q h1 h2
    obtain ⟨p, l, e, R, s, m, args, below, meth, c, nL, Q, ce0, sl0⟩ := K
    obtain ⟨hx, hb, hml, hown, hts, hK, hZ, hlk, hfr, hlo, hzx, hok, hce, hsl⟩ := C
    intro H locs ls hP hS hl
    exact lv_icmp_le hx hb d ht (fun hn => absurd hn hc) (fun _ => g H locs ls hP hS hl)

theorem x_if_le (C : Fx K Z cc own fr lo) (pc tgt : Nat) {x : Int32} {off : Int} (d : decode cc pc = .ok (.ifCond .le off, 3)) (ht : (pc : Int) + off = (tgt : Int)) [hd : Decidable (x ≤ 0)] (kt : x ≤ 0 → Y K Z progA E σ tgt L rest) (kf : ¬ (x ≤ 0) → Y K Z progB E σ (pc + 3) L rest) : Y K Z (@ite _ (x ≤ 0) hd progA progB) E σ pc L (.int x :: rest) := by
  intro q h1 h2
  by_cases hc : x ≤ 0
  · rw [if_pos hc] at h1
    have g := kt hc q h1 h2
    obtain ⟨p, l, e, R, s, m, args, below, meth, c, nL, Q, ce0, sl0⟩ := K
    obtain ⟨hx, hb, hml, hown, hts, hK, hZ, hlk, hfr, hlo, hzx, hok, hce, hsl⟩ := C
    intro H locs ls hP hS hl
    exact lv_if_le hx hb d ht (fun _ => g H locs ls hP hS hl) (fun hn => absurd hc hn)
  · rw [if_neg hc] at h1
    have g := kf hc q h1 h2
    obtain ⟨p, l, e, R, s, m, args, below, meth, c, nL, Q, ce0, sl0⟩ := K
    obtain ⟨hx, hb, hml, hown, hts, hK, hZ, hlk, hfr, hlo, hzx, hok, hce, hsl⟩ := C
    intro H locs ls hP hS hl
    exact lv_if_le hx hb d ht (fun hn => absurd hn hc) (fun _ => g H locs ls hP hS hl)

theorem x_get (C : Fx K Z cc own fr lo) (pc : Nat) {i ci N idx : Nat} {ref Cn : String} {T : u_T} {fs : List Value} {v : Value} (hi : i < zN Z) (hc : zY Z i σ = .inr (ci, fs)) (hcl : vwCl[ci]? = some (Cn, T, N)) (hin : ∀ w ∈ u_ws Cn T N, w ∈ gw_tbl) (j : Nat) (hj : j < N) (hw : Cond.fieldLink own idx ref (T j).2.1 (T j).2.2.1 ∈ gw_tbl) (hr : (T j).1 = ref) (hv : fs[j]? = some v) (d : decode cc pc = .ok (.getfield idx, 3)) (k : Y K Z prog E σ (pc + 3) L (v :: rest)) : Y K Z prog E σ pc L (.ref (zA Z i) :: rest) := by
  refine Y.of ?_ k
  obtain ⟨p, l, e, R, s, m, args, below, meth, c, nL, Q, ce0, sl0⟩ := K
  obtain ⟨hx, hb, hml, hown, hts, hK, hZ, hlk, hfr, hlo, hzx, hok, hce, hsl⟩ := C
  intro g H locs ls hP hS hl
  exact va_get hx hb hts hin hown hK hP i (zW_e hi hc) hcl j hj (hts _ hw) (fun _ h => by rw [← hr]; exact h) hv d (g H locs ls hP hS hl)
theorem x_put (C : Fx K Z cc own fr lo) (pc : Nat) {i ci N idx : Nat} {ref Cn : String} {T : u_T} {fs : List Value} {v : Value} {σ' : Wd} {ty : FieldType} (hi : i < zN Z) (hc : zY Z i σ = .inr (ci, fs)) (hcl : vwCl[ci]? = some (Cn, T, N)) (hin : ∀ w ∈ u_ws Cn T N, w ∈ gw_tbl) (tyf : Nat → FieldType) (hty : ∀ k, k < N → parseFieldDescriptor (T k).2.2.1 = some (tyf k)) (hnm : ∀ a, a < N → ∀ b, b < N → a ≠ b → (T a).2.1 ≠ (T b).2.1) (j : Nat) (hj : j < N) (hw : Cond.fieldLink own idx ref (T j).2.1 (T j).2.2.1 ∈ gw_tbl) (hr : (T j).1 = ref) (hfin : (T j).2.2.2 = false) (hd : parseFieldDescriptor (T j).2.2.1 = some ty) (hn : narrow ty v = v) (hfit : fits ty v = true) (hlen : j < fs.length) (hs : zY Z i σ' = .inr (ci, fs.set j v)) (ho : ∀ q, q ≠ i → zY Z q σ' = zY Z q σ) (d : decode cc pc = .ok (.putfield idx, 3)) (k : Y K Z prog E σ' (pc + 3) L rest) : Y K Z prog E σ pc L (v :: .ref (zA Z i) :: rest) := by
  refine Y.of ?_ k
  obtain ⟨p, l, e, R, s, m, args, below, meth, c, nL, Q, ce0, sl0⟩ := K
  obtain ⟨hx, hb, hml, hown, hts, hK, hZ, hlk, hfr, hlo, hzx, hok, hce, hsl⟩ := C
  intro g H locs ls hP hS hl
  exact va_put hx hb hts hin tyf hty hnm hown hK hP (zD hZ σ) hS i (zW_e hi hc) hcl j hj (hts _ hw) (fun _ h => by rw [← hr]; exact h) hfin hd hn hfit hlen d (fun H1 locs1 hP1 _ hS1 => g H1 locs1 ls (by rw [zW_set hs ho] at hP1; exact hP1) hS1 hl)

theorem x_iald (C : Fx K Z cc own fr lo) (pc : Nat) {i n : Nat} {j : Int32} (hi : i < zN Z) (hc : zY Z i σ = .inl (zC Z 1, n, .inl (σ.1 i))) (d : decode cc pc = .ok (.iaload, 1)) (k : ib j n → Y K Z prog E σ (pc + 1) L (.int (gI σ i (ix j)) :: rest)) : Y K Z (chk (ib j n) prog) E σ pc L (.int j :: .ref (zA Z i) :: rest) := by
  refine Y_chk (fun hj => ?_)
  have k := k hj
  refine Y.of ?_ k
  obtain ⟨p, l, e, R, s, m, args, below, meth, c, nL, Q, ce0, sl0⟩ := K
  obtain ⟨hx, hb, hml, hown, hts, hK, hZ, hlk, hfr, hlo, hzx, hok, hce, hsl⟩ := C
  intro g H locs ls hP hS hl
  exact va_iald hx hb hK hP i 1 (zW_e hi hc) rfl hj d (g H locs ls hP hS hl)

theorem x_bald (C : Fx K Z cc own fr lo) (pc : Nat) {i n : Nat} {j : Int32} (hi : i < zN Z) (hc : zY Z i σ = .inl (zC Z 0, n, .inl (σ.1 i))) (d : decode cc pc = .ok (.baload, 1)) (k : ib j n → Y K Z prog E σ (pc + 1) L (.int (gI σ i (ix j)) :: rest)) : Y K Z (chk (ib j n) prog) E σ pc L (.int j :: .ref (zA Z i) :: rest) := by
  refine Y_chk (fun hj => ?_)
  have k := k hj
  refine Y.of ?_ k
  obtain ⟨p, l, e, R, s, m, args, below, meth, c, nL, Q, ce0, sl0⟩ := K
  obtain ⟨hx, hb, hml, hown, hts, hK, hZ, hlk, hfr, hlo, hzx, hok, hce, hsl⟩ := C
  intro g H locs ls hP hS hl
  exact va_bald hx hb hK hP i 0 (zW_e hi hc) rfl hj d (g H locs ls hP hS hl)

theorem x_zald (C : Fx K Z cc own fr lo) (pc : Nat) {i n : Nat} {j : Int32} (hi : i < zN Z) (hc : zY Z i σ = .inl (zC Z 3, n, .inl (σ.1 i))) (d : decode cc pc = .ok (.baload, 1)) (k : ib j n → Y K Z prog E σ (pc + 1) L (.int (gI σ i (ix j)) :: rest)) : Y K Z (chk (ib j n) prog) E σ pc L (.int j :: .ref (zA Z i) :: rest) := by
  refine Y_chk (fun hj => ?_)
  have k := k hj
  refine Y.of ?_ k
  obtain ⟨p, l, e, R, s, m, args, below, meth, c, nL, Q, ce0, sl0⟩ := K
  obtain ⟨hx, hb, hml, hown, hts, hK, hZ, hlk, hfr, hlo, hzx, hok, hce, hsl⟩ := C
  intro g H locs ls hP hS hl
  exact va_zald hx hb hK hP i 3 (zW_e hi hc) rfl hj d (g H locs ls hP hS hl)

theorem x_lald (C : Fx K Z cc own fr lo) (pc : Nat) {i n : Nat} {j : Int32} (hi : i < zN Z) (hc : zY Z i σ = .inl (zC Z 2, n, .inr (.inl (σ.2.1 i)))) (d : decode cc pc = .ok (.laload, 1)) (k : ib j n → Y K Z prog E σ (pc + 1) L (.long (gL σ i (ix j)) :: rest)) : Y K Z (chk (ib j n) prog) E σ pc L (.int j :: .ref (zA Z i) :: rest) := by
  refine Y_chk (fun hj => ?_)
  have k := k hj
  refine Y.of ?_ k
  obtain ⟨p, l, e, R, s, m, args, below, meth, c, nL, Q, ce0, sl0⟩ := K
  obtain ⟨hx, hb, hml, hown, hts, hK, hZ, hlk, hfr, hlo, hzx, hok, hce, hsl⟩ := C
  intro g H locs ls hP hS hl
  exact va_lald hx hb hK hP i 2 (zW_e hi hc) rfl hj d (g H locs ls hP hS hl)

theorem x_iast (C : Fx K Z cc own fr lo) (pc : Nat) {kk : Wd → Option ρ} {i n : Nat} {j : Int32} {x : Int32} (hi : i < zN Z) (hc : ∀ σ : Wd, zY Z i σ = .inl (zC Z 1, n, .inl (σ.1 i))) (d : decode cc pc = .ok (.iastore, 1)) (k : ib j n → ∀ σ', Y K Z (kk σ') E σ' (pc + 1) L rest) : Y K Z (chk (ib j n) (lt (uI σ i (ix j) x) kk)) E σ pc L (.int x :: .int j :: .ref (zA Z i) :: rest) := by
  refine Y_chk (fun hj => ?_)
  have k : Y K Z (lt (uI σ i (ix j) x) kk) E (uI σ i (ix j) x) (pc + 1) L rest := k hj _
  refine Y.of ?_ k
  obtain ⟨p, l, e, R, s, m, args, below, meth, c, nL, Q, ce0, sl0⟩ := K
  obtain ⟨hx, hb, hml, hown, hts, hK, hZ, hlk, hfr, hlo, hzx, hok, hce, hsl⟩ := C
  intro g H locs ls hP hS hl
  exact va_iast hx hb hK hP (zD hZ σ) hS i 1 (zW_e hi (hc σ)) rfl hj d (fun H1 locs1 hP1 _ hS1 => g H1 locs1 ls (by rw [zW_set (σ' := uI σ i (ix j) x) (by rw [hc]; simp [uI, rI]) zY_rI] at hP1; exact hP1) hS1 hl)

theorem x_bast (C : Fx K Z cc own fr lo) (pc : Nat) {kk : Wd → Option ρ} {i n : Nat} {j : Int32} {x : Int32} (hi : i < zN Z) (hc : ∀ σ : Wd, zY Z i σ = .inl (zC Z 0, n, .inl (σ.1 i))) (d : decode cc pc = .ok (.bastore, 1)) (k : ib j n → ∀ σ', Y K Z (kk σ') E σ' (pc + 1) L rest) : Y K Z (chk (ib j n) (lt (uI σ i (ix j) (vp_nar .byte x)) kk)) E σ pc L (.int x :: .int j :: .ref (zA Z i) :: rest) := by
  refine Y_chk (fun hj => ?_)
  have k : Y K Z (lt (uI σ i (ix j) (vp_nar .byte x)) kk) E (uI σ i (ix j) (vp_nar .byte x)) (pc + 1) L rest := k hj _
  refine Y.of ?_ k
  obtain ⟨p, l, e, R, s, m, args, below, meth, c, nL, Q, ce0, sl0⟩ := K
  obtain ⟨hx, hb, hml, hown, hts, hK, hZ, hlk, hfr, hlo, hzx, hok, hce, hsl⟩ := C
  intro g H locs ls hP hS hl
  exact va_bast hx hb hK hP (zD hZ σ) hS i 0 (zW_e hi (hc σ)) rfl hj d (fun H1 locs1 hP1 _ hS1 => g H1 locs1 ls (by rw [zW_set (σ' := uI σ i (ix j) (vp_nar .byte x)) (by rw [hc]; simp [uI, rI]) zY_rI] at hP1; exact hP1) hS1 hl)

theorem x_zast (C : Fx K Z cc own fr lo) (pc : Nat) {kk : Wd → Option ρ} {i n : Nat} {j : Int32} {x : Int32} (hi : i < zN Z) (hc : ∀ σ : Wd, zY Z i σ = .inl (zC Z 3, n, .inl (σ.1 i))) (d : decode cc pc = .ok (.bastore, 1)) (k : ib j n → ∀ σ', Y K Z (kk σ') E σ' (pc + 1) L rest) : Y K Z (chk (ib j n) (lt (uI σ i (ix j) (vp_nar .boolean x)) kk)) E σ pc L (.int x :: .int j :: .ref (zA Z i) :: rest) := by
  refine Y_chk (fun hj => ?_)
  have k : Y K Z (lt (uI σ i (ix j) (vp_nar .boolean x)) kk) E (uI σ i (ix j) (vp_nar .boolean x)) (pc + 1) L rest := k hj _
  refine Y.of ?_ k
  obtain ⟨p, l, e, R, s, m, args, below, meth, c, nL, Q, ce0, sl0⟩ := K
  obtain ⟨hx, hb, hml, hown, hts, hK, hZ, hlk, hfr, hlo, hzx, hok, hce, hsl⟩ := C
  intro g H locs ls hP hS hl
  exact va_zast hx hb hK hP (zD hZ σ) hS i 3 (zW_e hi (hc σ)) rfl hj d (fun H1 locs1 hP1 _ hS1 => g H1 locs1 ls (by rw [zW_set (σ' := uI σ i (ix j) (vp_nar .boolean x)) (by rw [hc]; simp [uI, rI]) zY_rI] at hP1; exact hP1) hS1 hl)

theorem x_last (C : Fx K Z cc own fr lo) (pc : Nat) {kk : Wd → Option ρ} {i n : Nat} {j : Int32} {x : Int64} (hi : i < zN Z) (hc : ∀ σ : Wd, zY Z i σ = .inl (zC Z 2, n, .inr (.inl (σ.2.1 i)))) (d : decode cc pc = .ok (.lastore, 1)) (k : ib j n → ∀ σ', Y K Z (kk σ') E σ' (pc + 1) L rest) : Y K Z (chk (ib j n) (lt (uL σ i (ix j) x) kk)) E σ pc L (.long x :: .int j :: .ref (zA Z i) :: rest) := by
  refine Y_chk (fun hj => ?_)
  have k : Y K Z (lt (uL σ i (ix j) x) kk) E (uL σ i (ix j) x) (pc + 1) L rest := k hj _
  refine Y.of ?_ k
  obtain ⟨p, l, e, R, s, m, args, below, meth, c, nL, Q, ce0, sl0⟩ := K
  obtain ⟨hx, hb, hml, hown, hts, hK, hZ, hlk, hfr, hlo, hzx, hok, hce, hsl⟩ := C
  intro g H locs ls hP hS hl
  exact va_last hx hb hK hP (zD hZ σ) hS i 2 (zW_e hi (hc σ)) rfl hj d (fun H1 locs1 hP1 _ hS1 => g H1 locs1 ls (by rw [zW_set (σ' := uL σ i (ix j) x) (by rw [hc]; simp [uL, rL]) zY_rL] at hP1; exact hP1) hS1 hl)

theorem x_alen (C : Fx K Z cc own fr lo) (pc : Nat) {i n t0 : Nat} {x : vp_A} {ty : FieldType} {cA : ClassId} {v : Int32} (hi : i < zN Z) (hc : zY Z i σ = .inl (cA, x)) (ht : (zT Z)[t0]? = some (cA, ty)) (hv : Int32.ofNat x.1 = v) (d : decode cc pc = .ok (.arraylength, 1)) (k : Y K Z prog E σ (pc + 1) L (.int v :: rest)) : Y K Z prog E σ pc L (.ref (zA Z i) :: rest) := by
  refine Y.of ?_ k
  obtain ⟨p, l, e, R, s, m, args, below, meth, c, nL, Q, ce0, sl0⟩ := K
  obtain ⟨hx, hb, hml, hown, hts, hK, hZ, hlk, hfr, hlo, hzx, hok, hce, hsl⟩ := C
  intro g H locs ls hP hS hl
  exact va_alen hx hb hK hP i t0 (zW_e hi hc) ht hv d (g H locs ls hP hS hl)

theorem Y_ite {c : Prop} [hd : Decidable c] {pc : Nat} {st : List Value} (kt : c → Y K Z progA E σ pc L st) (kf : ¬ c → Y K Z progB E σ pc L st) : Y K Z (@ite _ c hd progA progB) E σ pc L st := by
  intro q h1 h2
  by_cases hc : c
  · rw [if_pos hc] at h1; exact kt hc q h1 h2
  · rw [if_neg hc] at h1; exact kf hc q h1 h2
theorem x_tswIn (C : Fx K Z cc own fr lo) (pc tgt : Nat) {dflt a b off : Int} {offs : Array Int} {len : Nat} {x : Int32} (v : Int32) (hv : x = v) (d : decode cc pc = .ok (.tableswitch dflt a b offs, len)) (h1 : ¬ v.toInt < a) (h2 : ¬ b < v.toInt) (ho : offs[(v.toInt - a).toNat]? = some off) (ht : (pc : Int) + off = (tgt : Int)) (k : Y K Z prog E σ tgt L rest) : Y K Z prog E σ pc L (.int x :: rest) := by
  subst hv
  refine Y.of ?_ k
  obtain ⟨p, l, e, R, s, m, args, below, meth, c, nL, Q, ce0, sl0⟩ := K
  obtain ⟨hx, hb, hml, hown, hts, hK, hZ, hlk, hfr, hlo, hzx, hok, hce, hsl⟩ := C
  intro g H locs ls hP hS hl
  exact lv_tableIn hx hb d h1 h2 ho ht (g H locs ls hP hS hl)
theorem x_tswOut (C : Fx K Z cc own fr lo) (pc tgt : Nat) {dflt a b : Int} {offs : Array Int} {len : Nat} {x : Int32} (vals : List Int32) (d : decode cc pc = .ok (.tableswitch dflt a b offs, len)) (hv : ∀ k : Nat, k < (b - a + 1).toNat → Int32.ofInt (a + k) ∈ vals ∨ offs[k]? = some dflt) (hne : ∀ v ∈ vals, ¬ x = v) (ht : (pc : Int) + dflt = (tgt : Int)) (k : Y K Z prog E σ tgt L rest) : Y K Z prog E σ pc L (.int x :: rest) := by
  have hout : (x.toInt < a ∨ b < x.toInt) ∨ (¬ x.toInt < a ∧ ¬ b < x.toInt ∧ offs[(x.toInt - a).toNat]? = some dflt) := by
    rcases Int.lt_or_le x.toInt a with h | h
    · exact Or.inl (Or.inl h)
    · rcases Int.lt_or_le b x.toInt with h2 | h2
      · exact Or.inl (Or.inr h2)
      · refine Or.inr ⟨by omega, by omega, ?_⟩
        rcases hv (x.toInt - a).toNat (by omega) with h3 | h3
        · exfalso
          rw [show a + ((x.toInt - a).toNat : Int) = x.toInt by omega, Int32.ofInt_toInt] at h3
          exact hne x h3 rfl
        · exact h3
  refine Y.of ?_ k
  obtain ⟨p, l, e, R, s, m, args, below, meth, c, nL, Q, ce0, sl0⟩ := K
  obtain ⟨hx, hb, hml, hown, hts, hK, hZ, hlk, hfr, hlo, hzx, hok, hce, hsl⟩ := C
  intro g H locs ls hP hS hl
  rcases hout with hout | ⟨h1, h2, h3⟩
  · exact lv_tableOut hx hb d hout ht (g H locs ls hP hS hl)
  · exact lv_tableIn hx hb d h1 h2 h3 ht (g H locs ls hP hS hl)
theorem x_lsw (C : Fx K Z cc own fr lo) (pc tgt : Nat) {dflt off : Int} {ps : Array (Int × Int)} {len : Nat} {x : Int32} (d : decode cc pc = .ok (.lookupswitch dflt ps, len)) (hp : (ps.toList.zip (ps.toList.drop 1)).all (fun (a, next) => a.1 < next.1) = true) (ho : Op.lookupswitch.offset ps.toList dflt x.toInt = off) (ht : (pc : Int) + off = (tgt : Int)) (k : Y K Z prog E σ tgt L rest) : Y K Z prog E σ pc L (.int x :: rest) := by
  refine Y.of ?_ k
  obtain ⟨p, l, e, R, s, m, args, below, meth, c, nL, Q, ce0, sl0⟩ := K
  obtain ⟨hx, hb, hml, hown, hts, hK, hZ, hlk, hfr, hlo, hzx, hok, hce, hsl⟩ := C
  intro g H locs ls hP hS hl
  exact lv_lookup hx hb d hp ho ht (g H locs ls hP hS hl)

theorem x_mmax (C : Fx K Z cc own fr lo) (pc : Nat) {idx : Nat} {x y : Int32} (hl1 : Cond.methodLink own idx Lib.Math.max.name ∈ gw_tbl) (hs1 : Cond.static Lib.Math.max.name ∈ gw_tbl) (hi1 : Cond.initialized "java/lang/Math" ∈ gw_tbl) (hc1 : Cond.code Lib.Math.max.name Lib.Math.max.code 2 (some .int) ∈ gw_tbl) (hf : 1 ≤ fr) (hw : (rest.map fun v => v.category).sum + 15 ≤ lo) (d : decode cc pc = .ok (.invokestatic idx, 3)) (k : Y K Z prog E σ (pc + 3) L (.int (if x < y then y else x) :: rest)) : Y K Z prog E σ pc L (.int y :: .int x :: rest) := by
  refine Y.of ?_ k
  obtain ⟨p, l, e, R, s, m, args, below, meth, c, nL, Q, ce0, sl0⟩ := K
  obtain ⟨hx, hb, hml, hown, hts, hK, hZ, hlk, hfr, hlo, hzx, hok, hce, hsl⟩ := C
  intro g H locs ls hP hS hl
  exact va_mmax hx hb (by rw [hml]; exact hl.1.symm) hown (hts _ hl1) (hts _ hs1) (hts _ hi1) (hts _ hc1) (Nat.le_trans hf hfr) (by omega) hce hsl d (g H locs ls hP hS hl)

theorem x_mmin (C : Fx K Z cc own fr lo) (pc : Nat) {idx : Nat} {x y : Int32} (hl1 : Cond.methodLink own idx Lib.Math.min.name ∈ gw_tbl) (hs1 : Cond.static Lib.Math.min.name ∈ gw_tbl) (hi1 : Cond.initialized "java/lang/Math" ∈ gw_tbl) (hc1 : Cond.code Lib.Math.min.name Lib.Math.min.code 2 (some .int) ∈ gw_tbl) (hf : 1 ≤ fr) (hw : (rest.map fun v => v.category).sum + 15 ≤ lo) (d : decode cc pc = .ok (.invokestatic idx, 3)) (k : Y K Z prog E σ (pc + 3) L (.int (if y < x then y else x) :: rest)) : Y K Z prog E σ pc L (.int y :: .int x :: rest) := by
  refine Y.of ?_ k
  obtain ⟨p, l, e, R, s, m, args, below, meth, c, nL, Q, ce0, sl0⟩ := K
  obtain ⟨hx, hb, hml, hown, hts, hK, hZ, hlk, hfr, hlo, hzx, hok, hce, hsl⟩ := C
  intro g H locs ls hP hS hl
  exact va_mmin hx hb (by rw [hml]; exact hl.1.symm) hown (hts _ hl1) (hts _ hs1) (hts _ hi1) (hts _ hc1) (Nat.le_trans hf hfr) (by omega) hce hsl d (g H locs ls hP hS hl)

theorem x_mmaxl (C : Fx K Z cc own fr lo) (pc : Nat) {idx : Nat} {x y : Int64} (hl1 : Cond.methodLink own idx Lib.MathLoose.max_long.x ∈ gw_tbl) (hs1 : Cond.static Lib.MathLoose.max_long.x ∈ gw_tbl) (hi1 : Cond.initialized "java/lang/Math" ∈ gw_tbl) (hc1 : Cond.code Lib.MathLoose.max_long.x Lib.MathLoose.max_long.code 4 (some .long) ∈ gw_tbl) (hf : 1 ≤ fr) (hw : (rest.map fun v => v.category).sum + 15 ≤ lo) (d : decode cc pc = .ok (.invokestatic idx, 3)) (k : Y K Z prog E σ (pc + 3) L (.long (if y < x then x else y) :: rest)) : Y K Z prog E σ pc L (.long y :: .long x :: rest) := by
  refine Y.of ?_ k
  obtain ⟨p, l, e, R, s, m, args, below, meth, c, nL, Q, ce0, sl0⟩ := K
  obtain ⟨hx, hb, hml, hown, hts, hK, hZ, hlk, hfr, hlo, hzx, hok, hce, hsl⟩ := C
  intro g H locs ls hP hS hl
  exact va_mmax_long hx hb (by rw [hml]; exact hl.1.symm) hown (hts _ hl1) (hts _ hs1) (hts _ hi1) (hts _ hc1) (Nat.le_trans hf hfr) (by omega) hce hsl d (g H locs ls hP hS hl)

theorem x_mminl (C : Fx K Z cc own fr lo) (pc : Nat) {idx : Nat} {x y : Int64} (hl1 : Cond.methodLink own idx Lib.MathLoose.min_long.x ∈ gw_tbl) (hs1 : Cond.static Lib.MathLoose.min_long.x ∈ gw_tbl) (hi1 : Cond.initialized "java/lang/Math" ∈ gw_tbl) (hc1 : Cond.code Lib.MathLoose.min_long.x Lib.MathLoose.min_long.code 4 (some .long) ∈ gw_tbl) (hf : 1 ≤ fr) (hw : (rest.map fun v => v.category).sum + 15 ≤ lo) (d : decode cc pc = .ok (.invokestatic idx, 3)) (k : Y K Z prog E σ (pc + 3) L (.long (if y < x then y else x) :: rest)) : Y K Z prog E σ pc L (.long y :: .long x :: rest) := by
  refine Y.of ?_ k
  obtain ⟨p, l, e, R, s, m, args, below, meth, c, nL, Q, ce0, sl0⟩ := K
  obtain ⟨hx, hb, hml, hown, hts, hK, hZ, hlk, hfr, hlo, hzx, hok, hce, hsl⟩ := C
  intro g H locs ls hP hS hl
  exact va_mmin_long hx hb (by rw [hml]; exact hl.1.symm) hown (hts _ hl1) (hts _ hs1) (hts _ hi1) (hts _ hc1) (Nat.le_trans hf hfr) (by omega) hce hsl d (g H locs ls hP hS hl)

theorem x_copyi (C : Fx K Z cc own fr lo) (pc : Nat) {kk : Wd → Option ρ} {i0 i1 n0 n1 idx : Nat} {sp dp n : Int32} (hi0 : i0 < zN Z) (hc0 : zY Z i0 σ = .inl (zC Z 1, n0, .inl (σ.1 i0))) (hi1 : i1 < zN Z) (hc1 : ∀ σ : Wd, zY Z i1 σ = .inl (zC Z 1, n1, .inl (σ.1 i1))) (hl1 : Cond.methodLink own idx arraycopyName ∈ gw_tbl) (hn1 : Cond.native arraycopyName ∈ gw_tbl) (hs1 : Cond.static arraycopyName ∈ gw_tbl) (hin1 : Cond.initialized "java/lang/System" ∈ gw_tbl) (hf : 1 ≤ fr) (hw : (rest.map fun v => v.category).sum + (nativeFrameWords "java/lang/System" "arraycopy" 5 + 11) ≤ lo) (d : decode cc pc = .ok (.invokestatic idx, 3)) (k : (¬ sp < 0 ∧ ¬ dp < 0 ∧ ¬ n < 0 ∧ ix sp + ix n ≤ n0 ∧ ix dp + ix n ≤ n1) → ∀ σ', Y K Z (kk σ') E σ' (pc + 3) L rest) : Y K Z (chk (¬ sp < 0 ∧ ¬ dp < 0 ∧ ¬ n < 0 ∧ ix sp + ix n ≤ n0 ∧ ix dp + ix n ≤ n1) (lt (rI σ i1 (va_cpy (σ.1 i0) (σ.1 i1) (ix sp) (ix dp) (ix n))) kk)) E σ pc L (.int n :: .int dp :: .ref (zA Z i1) :: .int sp :: .ref (zA Z i0) :: rest) := by
  refine Y_chk (fun hj => ?_)
  have k : Y K Z (lt (rI σ i1 (va_cpy (σ.1 i0) (σ.1 i1) (ix sp) (ix dp) (ix n))) kk) E (rI σ i1 (va_cpy (σ.1 i0) (σ.1 i1) (ix sp) (ix dp) (ix n))) (pc + 3) L rest := k hj _
  obtain ⟨j1, j2, j3, j4, j5⟩ := hj
  refine Y.of ?_ k
  obtain ⟨p, l, e, R, s, m, args, below, meth, c, nL, Q, ce0, sl0⟩ := K
  obtain ⟨hx, hb, hml, hown, hts, hK, hZ, hlk, hfr, hlo, hzx, hok, hce, hsl⟩ := C
  intro g H locs ls hP hS hl
  exact va_copyi hx hb (by rw [hml]; exact hl.1.symm) hown (hts _ hl1) (hts _ hn1) (hts _ hs1) (hts _ hin1) hK hP (zD hZ σ) hS i0 i1 1 1 (ty := .int) (zW_e hi0 hc0) (zW_e hi1 (hc1 σ)) rfl rfl rfl j1 j2 j3 j4 j5 (fun _ _ => rfl) (Nat.le_trans hf hfr) (by omega) d (fun H1 locs1 hP1 _ hS1 => g H1 locs1 ls (by rw [zW_set (σ' := rI σ i1 (va_cpy (σ.1 i0) (σ.1 i1) (ix sp) (ix dp) (ix n))) (by rw [hc1]; simp [rI]) zY_rI] at hP1; exact hP1) hS1 hl)

theorem x_copyl (C : Fx K Z cc own fr lo) (pc : Nat) {kk : Wd → Option ρ} {i0 i1 n0 n1 idx : Nat} {sp dp n : Int32} (hi0 : i0 < zN Z) (hc0 : zY Z i0 σ = .inl (zC Z 2, n0, .inr (.inl (σ.2.1 i0)))) (hi1 : i1 < zN Z) (hc1 : ∀ σ : Wd, zY Z i1 σ = .inl (zC Z 2, n1, .inr (.inl (σ.2.1 i1)))) (hl1 : Cond.methodLink own idx arraycopyName ∈ gw_tbl) (hn1 : Cond.native arraycopyName ∈ gw_tbl) (hs1 : Cond.static arraycopyName ∈ gw_tbl) (hin1 : Cond.initialized "java/lang/System" ∈ gw_tbl) (hf : 1 ≤ fr) (hw : (rest.map fun v => v.category).sum + (nativeFrameWords "java/lang/System" "arraycopy" 5 + 11) ≤ lo) (d : decode cc pc = .ok (.invokestatic idx, 3)) (k : (¬ sp < 0 ∧ ¬ dp < 0 ∧ ¬ n < 0 ∧ ix sp + ix n ≤ n0 ∧ ix dp + ix n ≤ n1) → ∀ σ', Y K Z (kk σ') E σ' (pc + 3) L rest) : Y K Z (chk (¬ sp < 0 ∧ ¬ dp < 0 ∧ ¬ n < 0 ∧ ix sp + ix n ≤ n0 ∧ ix dp + ix n ≤ n1) (lt (rL σ i1 (va_cpy (σ.2.1 i0) (σ.2.1 i1) (ix sp) (ix dp) (ix n))) kk)) E σ pc L (.int n :: .int dp :: .ref (zA Z i1) :: .int sp :: .ref (zA Z i0) :: rest) := by
  refine Y_chk (fun hj => ?_)
  have k : Y K Z (lt (rL σ i1 (va_cpy (σ.2.1 i0) (σ.2.1 i1) (ix sp) (ix dp) (ix n))) kk) E (rL σ i1 (va_cpy (σ.2.1 i0) (σ.2.1 i1) (ix sp) (ix dp) (ix n))) (pc + 3) L rest := k hj _
  obtain ⟨j1, j2, j3, j4, j5⟩ := hj
  refine Y.of ?_ k
  obtain ⟨p, l, e, R, s, m, args, below, meth, c, nL, Q, ce0, sl0⟩ := K
  obtain ⟨hx, hb, hml, hown, hts, hK, hZ, hlk, hfr, hlo, hzx, hok, hce, hsl⟩ := C
  intro g H locs ls hP hS hl
  exact va_copyl hx hb (by rw [hml]; exact hl.1.symm) hown (hts _ hl1) (hts _ hn1) (hts _ hs1) (hts _ hin1) hK hP (zD hZ σ) hS i0 i1 2 2 (ty := .long) (zW_e hi0 hc0) (zW_e hi1 (hc1 σ)) rfl rfl rfl j1 j2 j3 j4 j5 (fun _ _ => rfl) (Nat.le_trans hf hfr) (by omega) d (fun H1 locs1 hP1 _ hS1 => g H1 locs1 ls (by rw [zW_set (σ' := rL σ i1 (va_cpy (σ.2.1 i0) (σ.2.1 i1) (ix sp) (ix dp) (ix n))) (by rw [hc1]; simp [rL]) zY_rL] at hP1; exact hP1) hS1 hl)

/-- a method's contract: in a world σ it returns rv, and the world is σ' -/
def Ct (l : Launch) (Z : Zt) (y : MethodName) (b : ByteArray) (n : Nat) (ret : Option FieldType) (fr lo : Nat) (av : List Value) (σ : Wd) (rv : Option Value) (σ' : Wd) : Prop :=
  Met l y (.code y b n ret :: gw_tbl) { frames := fr, cells := 0, slots := 0, locals := lo } (va_Pc av (fun U => zU Z σ U)) (fun _ st oc t => oc = .returned rv ∧ zU Z σ' t ∧ va_F (zS Z) st t) 0 0 (zS Z)
def Rt (K : Kt) (Z : Zt) (ret : Option FieldType) (rv : Option Value) (σ' : Wd) : Prop :=
  match K with
  | (_, _, _, _, s, _, args, below, meth, _, _, Q, ce0, sl0) => (ce0 = 0 ∧ sl0 = 0) ∧ Q = MQ below (fun _ st oc t => oc = .returned rv ∧ zU Z σ' t ∧ va_F (zS Z) st t) args s 0 0 (zS Z) ∧ meth.sig.returnType = ret
theorem Ct_intro {l : Launch} {y : MethodName} {b : ByteArray} {n : Nat} {ret : Option FieldType} {av : List Value} {rv : Option Value} {σ' : Wd} (hok : zXok Z) (hy : plainName y.cls = true) (hyc : y.cls = own) (hsz : (lg_sl av).length ≤ n) (L0 : List (Nat × Value)) (hL : lv_args 0 av = L0)
    (h : ∀ K : Kt, Fx K Z b own fr lo → Rt K Z ret rv σ' → Kl K = l → K.2.2.2.2.2.2.2.2.2.2.1 = n → Go K Z σ 0 L0 []) : Ct l Z y b n ret fr lo av σ rv σ' := by
  refine Met.ofW (cc := b) (maxL := n) (ret := ret) hy rfl ?_
  intro p e s m args below meth c s₁ B hml hv
  obtain ⟨rfl, hP, hK, hZ, hX⟩ := hv
  have hts := atoms_spec (ws := Cond.code y b n ret :: gw_tbl) B.pre
  have hown : s.vm.findClass own = some m.cls := by rw [← hyc]; exact findClass_of_methodNamed B.named
  have hl := lv_entry av (n := n) hsz
  rw [hL] at hl
  have g := h (p, l, e, (headSpec (Cond.code y b n ret :: gw_tbl) { frames := fr, cells := 0, slots := 0, locals := lo }).room, s, m, av.toArray, below, meth, c, n, MQ below (fun _ st oc t => oc = .returned rv ∧ zU Z σ' t ∧ va_F (zS Z) st t) av.toArray s 0 0 (zS Z), 0, 0) ⟨B.exec, B.bytes, hml, hown, fun w hw => hts w (List.mem_cons_of_mem _ hw), hK, hZ, B.notSynchronized, Nat.le_refl _, Nat.le_refl _, hX, hok, Nat.zero_le _, Nat.zero_le _⟩ ⟨⟨rfl, rfl⟩, rfl, B.returns⟩ rfl rfl
  rw [lg_entry_eq]
  exact g s.heap [] _ hP va_S.rf hl
theorem Y_end {q : ρ} {pc : Nat} {st : List Value} (hp : prog = some q) (h : Y K Z prog (fun r => r = q) σ pc L st) : Go K Z σ pc L st := h q hp rfl
/-- what of a method a call of it wants -/
def Mw (y : MethodName) (b : ByteArray) (n : Nat) (ret : Option FieldType) (k : Nat) : Prop :=
  goodWord (Cond.code y b n ret) = true ∧ Cond.code y b n ret ∈ gw_tbl ∧ Cond.initialized y.cls ∈ gw_tbl ∧ (y.cls ≠ "java/lang/invoke/MethodHandle" ∧ y.cls ≠ "java/lang/invoke/VarHandle") ∧ (parseMethodDescriptor y.desc).map (fun d => d.parameters.length) = some k
def Mv (y : MethodName) (b : ByteArray) (n : Nat) (ret : Option FieldType) (k : Nat) : Prop := Mw y b n ret k ∧ Cond.instanceMethod y ∈ gw_tbl ∧ Cond.selects y.cls y y ∈ gw_tbl
def Ms (y : MethodName) (b : ByteArray) (n : Nat) (ret : Option FieldType) (k : Nat) : Prop := Mw y b n ret k ∧ Cond.static y ∈ gw_tbl
theorem Mw.callB {y : MethodName} {b : ByteArray} {n f2 l2 k idx : Nat} {ret : Option FieldType} {R : Room} {s : State} {args : Array Value} (h : Mw y b n ret k) (hts : ∀ w ∈ gw_tbl, w.before args s = true) (hlink : Cond.methodLink own idx y ∈ gw_tbl) (hf : f2 + 1 ≤ R.frames) (hw : 8 + (n + 11) + l2 ≤ R.locals) :
    CallB R s args own idx y b n ret (.code y b n ret :: gw_tbl) { frames := f2, cells := 0, slots := 0, locals := l2 } 0 0 k := by
  obtain ⟨h1, h2, h3, h4, h5⟩ := h
  refine ⟨rfl, rfl, hf, hw, gw_pay _ h1 h2 hts, List.mem_cons_self, hts _ h2, hts _ h3, h4, fun sig hs => ?_, hts _ hlink⟩
  rw [hs] at h5
  exact (Option.some.inj h5).symm
theorem zU_blind {av : List Value} {σ : Wd} (hok : zXok Z) : FrameBlind (va_Pc av (fun U => zU Z σ U)) := fun a U g mk h => ⟨h.1, h.2.1, va_K.moved (u := U) (U := U.calling g mk a) (Vm.Alike.refl U.vm) h.2.2.1, h.2.2.2.1, hok.2 _ _ _ _ h.2.2.2.2⟩
theorem zU_at {s : State} {H : Heap} {locs : List Loc} (hok : zXok Z) (hx : zX Z s) (hK : va_K Z.1 vwCl (zT Z) s) (hZ : zI Z) (hP : va_P Z.1 vwCl (zW Z σ) H) (hS : va_S (zS Z) s.heap H locs) : ∀ U : State, U.heap = H → s.WarmedH U.vm → zU Z σ U := fun U hU hW => ⟨by rw [hU]; exact hP, va_K.moved hW.alike hK, hZ, hok.1 s U hx (hS.F hU) hW⟩
theorem W_call {p : Program} {l : Launch} {e : Env} {R : Room} {s : State} {m : MethodId} {args : Array Value} {below : List Frame} {meth : Method} {c : Code} {Q : State → Prop} {H : Heap} {locs : List Loc} {pc : Nat} {ls : Array Slot} {st0 : List Value} {rv : Option Value} {σ' : Wd} {ce sl : Nat}
    (hr : va_Run p l e R s m args below meth c H locs ce sl 0 0 (F0 m pc ls st0) rest (fun st oc t => oc = .returned rv ∧ zU Z σ' t ∧ va_F (zS Z) st t) (zS Z)) (hS : va_S (zS Z) s.heap H locs)
    (kk : ∀ (H1 : Heap) (locs1 : List Loc), va_P Z.1 vwCl (zW Z σ') H1 → va_S (zS Z) s.heap H1 locs1 → W p l e R s m args below meth c H1 locs1 ce sl Q (F0 m (pc + 3) ls (rv.toList ++ rest))) : W p l e R s m args below meth c H locs ce sl Q (F0 m pc ls st0) := by
  intro T hT X
  obtain ⟨v, st₀, t, T', L, h0, X', hL, e1, e2, ⟨hv, hu, hz, hk⟩, st⟩ := hr T hT X
  cases hv
  rw [h0] at hz hk
  obtain ⟨t2, a1, b1⟩ := kk T'.heap (locs ++ L) (by rw [e1]; exact hu.1)
    ⟨Nat.le_trans hS.1 (by rw [e1]; exact hz), fun q h1 h2 => by rw [e1, hk q (Nat.lt_of_lt_of_le h1 hS.1) h2]; exact hS.2.1 q h1 h2, fun q hq => by
      rcases List.mem_append.mp hq with h | h
      · exact hS.2.2 q h
      · exact hL q h⟩ T' rfl X'
  exact ⟨t2, st t2 a1, b1⟩
theorem x_callV (C : Fx K Z cc own fr lo) (pc : Nat) {idx : Nat} {y : MethodName} {b : ByteArray} {n : Nat} {ret : Option FieldType} {f2 l2 i ci N : Nat} {T : u_T} {fs : List Value} {σ' : Wd} {rv : Option Value} {st : List Value} (As rest : List Value) (hst : st = As.reverse ++ .ref (zA Z i) :: rest) (hlink : Cond.methodLink own idx y ∈ gw_tbl) (hm : Mv y b n ret As.length) (hfr2 : f2 + 1 ≤ fr) (hlo2 : 8 + (n + 11) + l2 ≤ lo) (hrest : (rest.map fun v => v.category).sum ≤ 8) (hi : i < zN Z) (hc : zY Z i σ = .inr (ci, fs)) (hcl : vwCl[ci]? = some (y.cls, T, N)) (d : decode cc pc = .ok (.invokevirtual idx, 3)) (hM : Ct (Kl K) Z y b n ret f2 l2 (.ref (zA Z i) :: As) σ rv σ') (k : Y K Z prog E σ' (pc + 3) L (rv.toList ++ rest)) : Y K Z prog E σ pc L st := by
  subst hst
  refine Y.of ?_ k
  obtain ⟨p, l, e, R, s, m, args, below, meth, c, nL, Q, ce0, sl0⟩ := K
  obtain ⟨hx, hb, hml, hown, hts, hK, hZ, hlk, hfr, hlo, hzx, hok, hce, hsl⟩ := C
  intro g H locs ls hP hS hl
  have cw : CallW R s args own y.cls idx y b n ret (.code y b n ret :: gw_tbl) { frames := f2, cells := 0, slots := 0, locals := l2 } 0 0 As.length := ⟨hm.1.callB hts hlink (Nat.le_trans hfr2 hfr) (Nat.le_trans hlo2 hlo), hts _ hm.2.1, hts _ hm.2.2⟩
  exact W_call (va_runV (As := As) (rest := rest) ⟨hx, hb, hml, hown, hts⟩ hM cw ⟨zU_blind hok, va_recv hK hP hcl (zW_e hi hc), fun U hU hW => ⟨rfl, zU_at hok hzx hK hZ hP hS U hU hW⟩⟩ rfl rfl hl.1 rfl (lv_room hrest) d ⟨hce, hsl⟩) hS (fun H1 locs1 hP1 hS1 => g H1 locs1 ls hP1 hS1 hl)
theorem x_callS (C : Fx K Z cc own fr lo) (pc : Nat) {idx : Nat} {y : MethodName} {b : ByteArray} {n : Nat} {ret : Option FieldType} {f2 l2 : Nat} {σ' : Wd} {rv : Option Value} {st : List Value} (As rest : List Value) (hst : st = As.reverse ++ rest) (hlink : Cond.methodLink own idx y ∈ gw_tbl) (hm : Ms y b n ret As.length) (hfr2 : f2 + 1 ≤ fr) (hlo2 : 8 + (n + 11) + l2 ≤ lo) (hrest : (rest.map fun v => v.category).sum ≤ 8) (d : decode cc pc = .ok (.invokestatic idx, 3)) (hM : Ct (Kl K) Z y b n ret f2 l2 As σ rv σ') (k : Y K Z prog E σ' (pc + 3) L (rv.toList ++ rest)) : Y K Z prog E σ pc L st := by
  subst hst
  refine Y.of ?_ k
  obtain ⟨p, l, e, R, s, m, args, below, meth, c, nL, Q, ce0, sl0⟩ := K
  obtain ⟨hx, hb, hml, hown, hts, hK, hZ, hlk, hfr, hlo, hzx, hok, hce, hsl⟩ := C
  intro g H locs ls hP hS hl
  have cw : CallB R s args own idx y b n ret (.code y b n ret :: gw_tbl) { frames := f2, cells := 0, slots := 0, locals := l2 } 0 0 As.length ∧ (Cond.static y).before args s = true := ⟨hm.1.callB hts hlink (Nat.le_trans hfr2 hfr) (Nat.le_trans hlo2 hlo), hts _ hm.2⟩
  exact W_call (va_runS (As := As) (rest := rest) ⟨hx, hb, hml, hown, hts⟩ hM cw ⟨zU_blind hok, fun U hU hW => ⟨rfl, zU_at hok hzx hK hZ hP hS U hU hW⟩⟩ rfl rfl hl.1 rfl (lv_room hrest) d ⟨hce, hsl⟩) hS (fun H1 locs1 hP1 hS1 => g H1 locs1 ls hP1 hS1 hl)

theorem x_iret2 {r0 r : Int32} {σ2 : Wd} (C : Fx K Z cc own fr lo) (R0 : Rt K Z (some .int) (some (.int r)) σ2) (pc : Nat) (d : decode cc pc = .ok (.ireturn, 1)) : Y K Z (some (r0, σ)) (fun q => q = (r, σ2)) σ pc L [.int r0] := by
  intro q h1 h2
  cases h1
  cases h2
  obtain ⟨p, l, e, R, s, m, args, below, meth, c, nL, Q, ce0, sl0⟩ := K
  obtain ⟨hx, hb, hml, hown, hts, hK, hZ, hlk, hfr, hlo, hzx, hok, hce, hsl⟩ := C
  obtain ⟨⟨rfl, rfl⟩, hQ, hr⟩ := R0
  subst hQ
  intro H locs ls hP hS hl
  exact W.iret hx hb hr (fun t ht hW => ⟨rfl, zU_at hok hzx hK hZ hP hS t ht hW, hS.F ht⟩) hS.2.2 d hlk

theorem x_lret2 {r0 r : Int64} {σ2 : Wd} (C : Fx K Z cc own fr lo) (R0 : Rt K Z (some .long) (some (.long r)) σ2) (pc : Nat) (d : decode cc pc = .ok (.lreturn, 1)) : Y K Z (some (r0, σ)) (fun q => q = (r, σ2)) σ pc L [.long r0] := by
  intro q h1 h2
  cases h1
  cases h2
  obtain ⟨p, l, e, R, s, m, args, below, meth, c, nL, Q, ce0, sl0⟩ := K
  obtain ⟨hx, hb, hml, hown, hts, hK, hZ, hlk, hfr, hlo, hzx, hok, hce, hsl⟩ := C
  obtain ⟨⟨rfl, rfl⟩, hQ, hr⟩ := R0
  subst hQ
  intro H locs ls hP hS hl
  exact W.lret hx hb hr (fun t ht hW => ⟨rfl, zU_at hok hzx hK hZ hP hS t ht hW, hS.F ht⟩) hS.2.2 d hlk

theorem x_iret1 {r0 r : Int32} (C : Fx K Z cc own fr lo) (R0 : Rt K Z (some .int) (some (.int r)) σ) (pc : Nat) (d : decode cc pc = .ok (.ireturn, 1)) : Y K Z (some r0) (fun q => q = r) σ pc L [.int r0] := by
  intro q h1 h2
  cases h1
  cases h2
  obtain ⟨p, l, e, R, s, m, args, below, meth, c, nL, Q, ce0, sl0⟩ := K
  obtain ⟨hx, hb, hml, hown, hts, hK, hZ, hlk, hfr, hlo, hzx, hok, hce, hsl⟩ := C
  obtain ⟨⟨rfl, rfl⟩, hQ, hr⟩ := R0
  subst hQ
  intro H locs ls hP hS hl
  exact W.iret hx hb hr (fun t ht hW => ⟨rfl, zU_at hok hzx hK hZ hP hS t ht hW, hS.F ht⟩) hS.2.2 d hlk

theorem x_lret1 {r0 r : Int64} (C : Fx K Z cc own fr lo) (R0 : Rt K Z (some .long) (some (.long r)) σ) (pc : Nat) (d : decode cc pc = .ok (.lreturn, 1)) : Y K Z (some r0) (fun q => q = r) σ pc L [.long r0] := by
  intro q h1 h2
  cases h1
  cases h2
  obtain ⟨p, l, e, R, s, m, args, below, meth, c, nL, Q, ce0, sl0⟩ := K
  obtain ⟨hx, hb, hml, hown, hts, hK, hZ, hlk, hfr, hlo, hzx, hok, hce, hsl⟩ := C
  obtain ⟨⟨rfl, rfl⟩, hQ, hr⟩ := R0
  subst hQ
  intro H locs ls hP hS hl
  exact W.lret hx hb hr (fun t ht hW => ⟨rfl, zU_at hok hzx hK hZ hP hS t ht hW, hS.F ht⟩) hS.2.2 d hlk

theorem x_vret {σ2 : Wd} (C : Fx K Z cc own fr lo) (R0 : Rt K Z none none σ2) (pc : Nat) (d : decode cc pc = .ok (.return_, 1)) : Y K Z (some σ) (fun q => q = σ2) σ pc L [] := by
  intro q h1 h2
  cases h1
  cases h2
  obtain ⟨p, l, e, R, s, m, args, below, meth, c, nL, Q, ce0, sl0⟩ := K
  obtain ⟨hx, hb, hml, hown, hts, hK, hZ, hlk, hfr, hlo, hzx, hok, hce, hsl⟩ := C
  obtain ⟨⟨rfl, rfl⟩, hQ, hr⟩ := R0
  subst hQ
  intro H locs ls hP hS hl
  exact W.vret hx hb hr (fun t ht hW => ⟨rfl, zU_at hok hzx hK hZ hP hS t ht hW, hS.F ht⟩) hS.2.2 d hlk

theorem x_zret1 {r0 r : Int32} (C : Fx K Z cc own fr lo) (R0 : Rt K Z (some .boolean) (some (.int r)) σ) (pc : Nat) (hz01 : narrow .boolean (.int r0) = .int r0) (d : decode cc pc = .ok (.ireturn, 1)) : Y K Z (some r0) (fun q => q = r) σ pc L [.int r0] := by
  intro q h1 h2
  cases h1
  cases h2
  obtain ⟨p, l, e, R, s, m, args, below, meth, c, nL, Q, ce0, sl0⟩ := K
  obtain ⟨hx, hb, hml, hown, hts, hK, hZ, hlk, hfr, hlo, hzx, hok, hce, hsl⟩ := C
  obtain ⟨⟨rfl, rfl⟩, hQ, hr⟩ := R0
  subst hQ
  intro H locs ls hP hS hl
  exact W.zret hx hb hr hz01 (fun t ht hW => ⟨rfl, zU_at hok hzx hK hZ hP hS t ht hW, hS.F ht⟩) hS.2.2 d hlk

theorem x_zret2 {r0 r : Int32} {σ2 : Wd} (C : Fx K Z cc own fr lo) (R0 : Rt K Z (some .boolean) (some (.int r)) σ2) (pc : Nat) (hz01 : narrow .boolean (.int r0) = .int r0) (d : decode cc pc = .ok (.ireturn, 1)) : Y K Z (some (r0, σ)) (fun q => q = (r, σ2)) σ pc L [.int r0] := by
  intro q h1 h2
  cases h1
  cases h2
  obtain ⟨p, l, e, R, s, m, args, below, meth, c, nL, Q, ce0, sl0⟩ := K
  obtain ⟨hx, hb, hml, hown, hts, hK, hZ, hlk, hfr, hlo, hzx, hok, hce, hsl⟩ := C
  obtain ⟨⟨rfl, rfl⟩, hQ, hr⟩ := R0
  subst hQ
  intro H locs ls hP hS hl
  exact W.zret hx hb hr hz01 (fun t ht hW => ⟨rfl, zU_at hok hzx hK hZ hP hS t ht hW, hS.F ht⟩) hS.2.2 d hlk

theorem x_istore_nt (C : Fx K Z cc own fr lo) (pc : Nat) {q4 : Fin 4} {i : Nat} {x : Int32} {kk : Int32 → Option ρ} (L' : Int32 → List (Nat × Value)) (d : decode cc pc = .ok (.istore_n q4, 1)) (hi : (q4 : Nat) = i) (hn : ∀ K2 : Kt, K = K2 → i < K2.2.2.2.2.2.2.2.2.2.2.1) (hl : ∀ y, (i, Value.int y) :: L.filter (fun q => !(q.1 == i) && !(q.1 + 1 == i && q.2.category == 2)) = L' y) (k : ∀ y, Y K Z (kk y) E σ (pc + 1) (L' y) rest) : Y K Z (lt x kk) E σ pc L (.int x :: rest) :=
  x_istore_n C pc d hi hn (hl x) (k x)

theorem x_istoret (C : Fx K Z cc own fr lo) (pc : Nat) {i : Nat} {x : Int32} {kk : Int32 → Option ρ} (L' : Int32 → List (Nat × Value)) (d : decode cc pc = .ok (.istore i, 2)) (hn : ∀ K2 : Kt, K = K2 → i < K2.2.2.2.2.2.2.2.2.2.2.1) (hl : ∀ y, (i, Value.int y) :: L.filter (fun q => !(q.1 == i) && !(q.1 + 1 == i && q.2.category == 2)) = L' y) (k : ∀ y, Y K Z (kk y) E σ (pc + 2) (L' y) rest) : Y K Z (lt x kk) E σ pc L (.int x :: rest) :=
  x_istore C pc d hn (hl x) (k x)

theorem x_lstore_nt (C : Fx K Z cc own fr lo) (pc : Nat) {q4 : Fin 4} {i : Nat} {x : Int64} {kk : Int64 → Option ρ} (L' : Int64 → List (Nat × Value)) (d : decode cc pc = .ok (.lstore_n q4, 1)) (hi : (q4 : Nat) = i) (hn : ∀ K2 : Kt, K = K2 → i + 1 < K2.2.2.2.2.2.2.2.2.2.2.1) (hl : ∀ y, (i, Value.long y) :: L.filter (fun q => !(q.1 == i) && (!(q.1 == i + 1) && !(q.1 + 1 == i && q.2.category == 2))) = L' y) (k : ∀ y, Y K Z (kk y) E σ (pc + 1) (L' y) rest) : Y K Z (lt x kk) E σ pc L (.long x :: rest) :=
  x_lstore_n C pc d hi hn (hl x) (k x)

theorem x_lstoret (C : Fx K Z cc own fr lo) (pc : Nat) {i : Nat} {x : Int64} {kk : Int64 → Option ρ} (L' : Int64 → List (Nat × Value)) (d : decode cc pc = .ok (.lstore i, 2)) (hn : ∀ K2 : Kt, K = K2 → i + 1 < K2.2.2.2.2.2.2.2.2.2.2.1) (hl : ∀ y, (i, Value.long y) :: L.filter (fun q => !(q.1 == i) && (!(q.1 == i + 1) && !(q.1 + 1 == i && q.2.category == 2))) = L' y) (k : ∀ y, Y K Z (kk y) E σ (pc + 2) (L' y) rest) : Y K Z (lt x kk) E σ pc L (.long x :: rest) :=
  x_lstore C pc d hn (hl x) (k x)

theorem x_fstore_nt (C : Fx K Z cc own fr lo) (pc : Nat) {q4 : Fin 4} {i : Nat} {x : UInt32} {kk : UInt32 → Option ρ} (L' : UInt32 → List (Nat × Value)) (d : decode cc pc = .ok (.fstore_n q4, 1)) (hi : (q4 : Nat) = i) (hn : ∀ K2 : Kt, K = K2 → i < K2.2.2.2.2.2.2.2.2.2.2.1) (hl : ∀ y, (i, Value.float y) :: L.filter (fun q => !(q.1 == i) && !(q.1 + 1 == i && q.2.category == 2)) = L' y) (k : ∀ y, Y K Z (kk y) E σ (pc + 1) (L' y) rest) : Y K Z (lt x kk) E σ pc L (.float x :: rest) :=
  x_fstore_n C pc d hi hn (hl x) (k x)

theorem x_iinct (C : Fx K Z cc own fr lo) (pc : Nat) {i : Nat} (j : Nat) {n : Int} {x : Int32} (n' : Int32) {kk : Int32 → Option ρ} (L' : Int32 → List (Nat × Value)) (d : decode cc pc = .ok (.iinc i n, 3)) (hj : L[j]? = some (i, .int x)) (hv : Int32.ofInt n = n') (hn : ∀ K2 : Kt, K = K2 → i < K2.2.2.2.2.2.2.2.2.2.2.1) (hl : ∀ y, (i, Value.int y) :: L.filter (fun q => !(q.1 == i) && !(q.1 + 1 == i && q.2.category == 2)) = L' y) (k : ∀ y, Y K Z (kk y) E σ (pc + 3) (L' y) rest) : Y K Z (lt (x + n') kk) E σ pc L rest :=
  x_iinc C pc j d hj (by rw [hv]) hn (hl _) (k _)
theorem nl_of {n : Nat} (h : K.2.2.2.2.2.2.2.2.2.2.1 = n) : ∀ i, i < n → ∀ K2 : Kt, K = K2 → i < K2.2.2.2.2.2.2.2.2.2.2.1 := fun i hi K2 e => by rw [← e, h]; exact hi
abbrev zb (r : Int32) : Prop := r = 0 ∨ r = 1
theorem zb_nar {r : Int32} (h : zb r) : narrow .boolean (.int r) = .int r := by rcases h with rfl | rfl <;> rfl
theorem i32_toInt_ne {x v : Int32} {n : Int} (h : ¬ x = v) (hv : v.toInt = n) : ¬ x.toInt = n := fun e => h (Int32.toInt_inj.mp (by rw [e, hv]))
def sx {α β γ : Type} (f : α → γ) (g : β → γ) (x : α ⊕ β) : γ := match x with
  | .inl a => f a
  | .inr b => g b
def un0 {γ : Type} (k : γ) (_ : Unit) : γ := k
def un1 {α γ : Type} (k : α → γ) (x : α) : γ := k x

def un2 {α0 α1 γ : Type} (k : α0 → α1 → γ) (x : α0 × α1) : γ := k x.1 x.2
def un3 {α0 α1 α2 γ : Type} (k : α0 → α1 → α2 → γ) (x : α0 × α1 × α2) : γ := k x.1 x.2.1 x.2.2
def un4 {α0 α1 α2 α3 γ : Type} (k : α0 → α1 → α2 → α3 → γ) (x : α0 × α1 × α2 × α3) : γ := k x.1 x.2.1 x.2.2.1 x.2.2.2
def un5 {α0 α1 α2 α3 α4 γ : Type} (k : α0 → α1 → α2 → α3 → α4 → γ) (x : α0 × α1 × α2 × α3 × α4) : γ := k x.1 x.2.1 x.2.2.1 x.2.2.2.1 x.2.2.2.2
def un6 {α0 α1 α2 α3 α4 α5 γ : Type} (k : α0 → α1 → α2 → α3 → α4 → α5 → γ) (x : α0 × α1 × α2 × α3 × α4 × α5) : γ := k x.1 x.2.1 x.2.2.1 x.2.2.2.1 x.2.2.2.2.1 x.2.2.2.2.2
def un7 {α0 α1 α2 α3 α4 α5 α6 γ : Type} (k : α0 → α1 → α2 → α3 → α4 → α5 → α6 → γ) (x : α0 × α1 × α2 × α3 × α4 × α5 × α6) : γ := k x.1 x.2.1 x.2.2.1 x.2.2.2.1 x.2.2.2.2.1 x.2.2.2.2.2.1 x.2.2.2.2.2.2
def un8 {α0 α1 α2 α3 α4 α5 α6 α7 γ : Type} (k : α0 → α1 → α2 → α3 → α4 → α5 → α6 → α7 → γ) (x : α0 × α1 × α2 × α3 × α4 × α5 × α6 × α7) : γ := k x.1 x.2.1 x.2.2.1 x.2.2.2.1 x.2.2.2.2.1 x.2.2.2.2.2.1 x.2.2.2.2.2.2.1 x.2.2.2.2.2.2.2
theorem x_ex0 {S : Type} {k : Option ρ} {E' : S ⊕ (Unit) → Prop} {pc : Nat} {st : List Value} (hx : ∀ x, E' (.inr x) → ∃ q, un0 k x = some q ∧ E q)  (h : Y K Z (k) E σ pc L st) : Y K Z (some (.inr ())) E' σ pc L st := x_exit hx _ h
theorem x_exl0 {S R : Type} {k : Option ρ} {g : R → Option ρ} {E' : S ⊕ ((Unit) ⊕ R) → Prop} {pc : Nat} {st : List Value} (hx : ∀ x, E' (.inr x) → ∃ q, sx (un0 k) g x = some q ∧ E q)  (h : Y K Z (k) E σ pc L st) : Y K Z (some (.inr (.inl ()))) E' σ pc L st := x_exit hx _ h
theorem x_ex1 {S : Type} {α0 : Type} {k : α0 → Option ρ} {E' : S ⊕ (α0) → Prop} {pc : Nat} {st : List Value} (hx : ∀ x, E' (.inr x) → ∃ q, un1 k x = some q ∧ E q) (a0 : α0) (h : Y K Z (k a0) E σ pc L st) : Y K Z (some (.inr (a0))) E' σ pc L st := x_exit hx _ h
theorem x_exl1 {S R : Type} {α0 : Type} {k : α0 → Option ρ} {g : R → Option ρ} {E' : S ⊕ ((α0) ⊕ R) → Prop} {pc : Nat} {st : List Value} (hx : ∀ x, E' (.inr x) → ∃ q, sx (un1 k) g x = some q ∧ E q) (a0 : α0) (h : Y K Z (k a0) E σ pc L st) : Y K Z (some (.inr (.inl (a0)))) E' σ pc L st := x_exit hx _ h
theorem x_ex2 {S : Type} {α0 α1 : Type} {k : α0 → α1 → Option ρ} {E' : S ⊕ (α0 × α1) → Prop} {pc : Nat} {st : List Value} (hx : ∀ x, E' (.inr x) → ∃ q, un2 k x = some q ∧ E q) (a0 : α0) (a1 : α1) (h : Y K Z (k a0 a1) E σ pc L st) : Y K Z (some (.inr (a0, a1))) E' σ pc L st := x_exit hx _ h
theorem x_exl2 {S R : Type} {α0 α1 : Type} {k : α0 → α1 → Option ρ} {g : R → Option ρ} {E' : S ⊕ ((α0 × α1) ⊕ R) → Prop} {pc : Nat} {st : List Value} (hx : ∀ x, E' (.inr x) → ∃ q, sx (un2 k) g x = some q ∧ E q) (a0 : α0) (a1 : α1) (h : Y K Z (k a0 a1) E σ pc L st) : Y K Z (some (.inr (.inl (a0, a1)))) E' σ pc L st := x_exit hx _ h
theorem x_ex3 {S : Type} {α0 α1 α2 : Type} {k : α0 → α1 → α2 → Option ρ} {E' : S ⊕ (α0 × α1 × α2) → Prop} {pc : Nat} {st : List Value} (hx : ∀ x, E' (.inr x) → ∃ q, un3 k x = some q ∧ E q) (a0 : α0) (a1 : α1) (a2 : α2) (h : Y K Z (k a0 a1 a2) E σ pc L st) : Y K Z (some (.inr (a0, a1, a2))) E' σ pc L st := x_exit hx _ h
theorem x_exl3 {S R : Type} {α0 α1 α2 : Type} {k : α0 → α1 → α2 → Option ρ} {g : R → Option ρ} {E' : S ⊕ ((α0 × α1 × α2) ⊕ R) → Prop} {pc : Nat} {st : List Value} (hx : ∀ x, E' (.inr x) → ∃ q, sx (un3 k) g x = some q ∧ E q) (a0 : α0) (a1 : α1) (a2 : α2) (h : Y K Z (k a0 a1 a2) E σ pc L st) : Y K Z (some (.inr (.inl (a0, a1, a2)))) E' σ pc L st := x_exit hx _ h
theorem x_ex4 {S : Type} {α0 α1 α2 α3 : Type} {k : α0 → α1 → α2 → α3 → Option ρ} {E' : S ⊕ (α0 × α1 × α2 × α3) → Prop} {pc : Nat} {st : List Value} (hx : ∀ x, E' (.inr x) → ∃ q, un4 k x = some q ∧ E q) (a0 : α0) (a1 : α1) (a2 : α2) (a3 : α3) (h : Y K Z (k a0 a1 a2 a3) E σ pc L st) : Y K Z (some (.inr (a0, a1, a2, a3))) E' σ pc L st := x_exit hx _ h
theorem x_exl4 {S R : Type} {α0 α1 α2 α3 : Type} {k : α0 → α1 → α2 → α3 → Option ρ} {g : R → Option ρ} {E' : S ⊕ ((α0 × α1 × α2 × α3) ⊕ R) → Prop} {pc : Nat} {st : List Value} (hx : ∀ x, E' (.inr x) → ∃ q, sx (un4 k) g x = some q ∧ E q) (a0 : α0) (a1 : α1) (a2 : α2) (a3 : α3) (h : Y K Z (k a0 a1 a2 a3) E σ pc L st) : Y K Z (some (.inr (.inl (a0, a1, a2, a3)))) E' σ pc L st := x_exit hx _ h
theorem x_ex5 {S : Type} {α0 α1 α2 α3 α4 : Type} {k : α0 → α1 → α2 → α3 → α4 → Option ρ} {E' : S ⊕ (α0 × α1 × α2 × α3 × α4) → Prop} {pc : Nat} {st : List Value} (hx : ∀ x, E' (.inr x) → ∃ q, un5 k x = some q ∧ E q) (a0 : α0) (a1 : α1) (a2 : α2) (a3 : α3) (a4 : α4) (h : Y K Z (k a0 a1 a2 a3 a4) E σ pc L st) : Y K Z (some (.inr (a0, a1, a2, a3, a4))) E' σ pc L st := x_exit hx _ h
theorem x_exl5 {S R : Type} {α0 α1 α2 α3 α4 : Type} {k : α0 → α1 → α2 → α3 → α4 → Option ρ} {g : R → Option ρ} {E' : S ⊕ ((α0 × α1 × α2 × α3 × α4) ⊕ R) → Prop} {pc : Nat} {st : List Value} (hx : ∀ x, E' (.inr x) → ∃ q, sx (un5 k) g x = some q ∧ E q) (a0 : α0) (a1 : α1) (a2 : α2) (a3 : α3) (a4 : α4) (h : Y K Z (k a0 a1 a2 a3 a4) E σ pc L st) : Y K Z (some (.inr (.inl (a0, a1, a2, a3, a4)))) E' σ pc L st := x_exit hx _ h
theorem x_ex6 {S : Type} {α0 α1 α2 α3 α4 α5 : Type} {k : α0 → α1 → α2 → α3 → α4 → α5 → Option ρ} {E' : S ⊕ (α0 × α1 × α2 × α3 × α4 × α5) → Prop} {pc : Nat} {st : List Value} (hx : ∀ x, E' (.inr x) → ∃ q, un6 k x = some q ∧ E q) (a0 : α0) (a1 : α1) (a2 : α2) (a3 : α3) (a4 : α4) (a5 : α5) (h : Y K Z (k a0 a1 a2 a3 a4 a5) E σ pc L st) : Y K Z (some (.inr (a0, a1, a2, a3, a4, a5))) E' σ pc L st := x_exit hx _ h
theorem x_exl6 {S R : Type} {α0 α1 α2 α3 α4 α5 : Type} {k : α0 → α1 → α2 → α3 → α4 → α5 → Option ρ} {g : R → Option ρ} {E' : S ⊕ ((α0 × α1 × α2 × α3 × α4 × α5) ⊕ R) → Prop} {pc : Nat} {st : List Value} (hx : ∀ x, E' (.inr x) → ∃ q, sx (un6 k) g x = some q ∧ E q) (a0 : α0) (a1 : α1) (a2 : α2) (a3 : α3) (a4 : α4) (a5 : α5) (h : Y K Z (k a0 a1 a2 a3 a4 a5) E σ pc L st) : Y K Z (some (.inr (.inl (a0, a1, a2, a3, a4, a5)))) E' σ pc L st := x_exit hx _ h
theorem x_ex7 {S : Type} {α0 α1 α2 α3 α4 α5 α6 : Type} {k : α0 → α1 → α2 → α3 → α4 → α5 → α6 → Option ρ} {E' : S ⊕ (α0 × α1 × α2 × α3 × α4 × α5 × α6) → Prop} {pc : Nat} {st : List Value} (hx : ∀ x, E' (.inr x) → ∃ q, un7 k x = some q ∧ E q) (a0 : α0) (a1 : α1) (a2 : α2) (a3 : α3) (a4 : α4) (a5 : α5) (a6 : α6) (h : Y K Z (k a0 a1 a2 a3 a4 a5 a6) E σ pc L st) : Y K Z (some (.inr (a0, a1, a2, a3, a4, a5, a6))) E' σ pc L st := x_exit hx _ h
theorem x_exl7 {S R : Type} {α0 α1 α2 α3 α4 α5 α6 : Type} {k : α0 → α1 → α2 → α3 → α4 → α5 → α6 → Option ρ} {g : R → Option ρ} {E' : S ⊕ ((α0 × α1 × α2 × α3 × α4 × α5 × α6) ⊕ R) → Prop} {pc : Nat} {st : List Value} (hx : ∀ x, E' (.inr x) → ∃ q, sx (un7 k) g x = some q ∧ E q) (a0 : α0) (a1 : α1) (a2 : α2) (a3 : α3) (a4 : α4) (a5 : α5) (a6 : α6) (h : Y K Z (k a0 a1 a2 a3 a4 a5 a6) E σ pc L st) : Y K Z (some (.inr (.inl (a0, a1, a2, a3, a4, a5, a6)))) E' σ pc L st := x_exit hx _ h
theorem x_ex8 {S : Type} {α0 α1 α2 α3 α4 α5 α6 α7 : Type} {k : α0 → α1 → α2 → α3 → α4 → α5 → α6 → α7 → Option ρ} {E' : S ⊕ (α0 × α1 × α2 × α3 × α4 × α5 × α6 × α7) → Prop} {pc : Nat} {st : List Value} (hx : ∀ x, E' (.inr x) → ∃ q, un8 k x = some q ∧ E q) (a0 : α0) (a1 : α1) (a2 : α2) (a3 : α3) (a4 : α4) (a5 : α5) (a6 : α6) (a7 : α7) (h : Y K Z (k a0 a1 a2 a3 a4 a5 a6 a7) E σ pc L st) : Y K Z (some (.inr (a0, a1, a2, a3, a4, a5, a6, a7))) E' σ pc L st := x_exit hx _ h
theorem x_exl8 {S R : Type} {α0 α1 α2 α3 α4 α5 α6 α7 : Type} {k : α0 → α1 → α2 → α3 → α4 → α5 → α6 → α7 → Option ρ} {g : R → Option ρ} {E' : S ⊕ ((α0 × α1 × α2 × α3 × α4 × α5 × α6 × α7) ⊕ R) → Prop} {pc : Nat} {st : List Value} (hx : ∀ x, E' (.inr x) → ∃ q, sx (un8 k) g x = some q ∧ E q) (a0 : α0) (a1 : α1) (a2 : α2) (a3 : α3) (a4 : α4) (a5 : α5) (a6 : α6) (a7 : α7) (h : Y K Z (k a0 a1 a2 a3 a4 a5 a6 a7) E σ pc L st) : Y K Z (some (.inr (.inl (a0, a1, a2, a3, a4, a5, a6, a7)))) E' σ pc L st := x_exit hx _ h
theorem x_exr {S X R : Type} {f : X → Option ρ} {g : R → Option ρ} {E' : S ⊕ (X ⊕ R) → Prop} {pc : Nat} {st : List Value} (hx : ∀ x, E' (.inr x) → ∃ q, sx f g x = some q ∧ E q) (q : R) (h : Y K Z (g q) E σ pc L st) : Y K Z (some (.inr (.inr q))) E' σ pc L st := x_exit hx _ h
theorem x_callVv (C : Fx K Z cc own fr lo) (pc : Nat) {idx : Nat} {y : MethodName} {b : ByteArray} {n : Nat} {ret : Option FieldType} {f2 l2 i ci N : Nat} {T : u_T} {fs : List Value} {σ' : Wd} {st : List Value} (As rest : List Value) (hst : st = As.reverse ++ .ref (zA Z i) :: rest) (hlink : Cond.methodLink own idx y ∈ gw_tbl) (hm : Mv y b n ret As.length) (hfr2 : f2 + 1 ≤ fr) (hlo2 : 8 + (n + 11) + l2 ≤ lo) (hrest : (rest.map fun v => v.category).sum ≤ 8) (hi : i < zN Z) (hc : zY Z i σ = .inr (ci, fs)) (hcl : vwCl[ci]? = some (y.cls, T, N)) (d : decode cc pc = .ok (.invokevirtual idx, 3)) (hM : Ct (Kl K) Z y b n ret f2 l2 (.ref (zA Z i) :: As) σ none σ') (k : Y K Z prog E σ' (pc + 3) L (rest)) : Y K Z prog E σ pc L st :=
  x_callV C pc As rest hst hlink hm hfr2 hlo2 hrest hi hc hcl d hM k
theorem x_callSv (C : Fx K Z cc own fr lo) (pc : Nat) {idx : Nat} {y : MethodName} {b : ByteArray} {n : Nat} {ret : Option FieldType} {f2 l2 : Nat} {σ' : Wd} {st : List Value} (As rest : List Value) (hst : st = As.reverse ++ rest) (hlink : Cond.methodLink own idx y ∈ gw_tbl) (hm : Ms y b n ret As.length) (hfr2 : f2 + 1 ≤ fr) (hlo2 : 8 + (n + 11) + l2 ≤ lo) (hrest : (rest.map fun v => v.category).sum ≤ 8) (d : decode cc pc = .ok (.invokestatic idx, 3)) (hM : Ct (Kl K) Z y b n ret f2 l2 As σ none σ') (k : Y K Z prog E σ' (pc + 3) L (rest)) : Y K Z prog E σ pc L st :=
  x_callS C pc As rest hst hlink hm hfr2 hlo2 hrest d hM k

theorem x_callVi (C : Fx K Z cc own fr lo) (pc : Nat) {idx : Nat} {y : MethodName} {b : ByteArray} {n : Nat} {ret : Option FieldType} {f2 l2 i ci N : Nat} {T : u_T} {fs : List Value} {σ' : Wd} {r : Int32} {st : List Value} (As rest : List Value) (hst : st = As.reverse ++ .ref (zA Z i) :: rest) (hlink : Cond.methodLink own idx y ∈ gw_tbl) (hm : Mv y b n ret As.length) (hfr2 : f2 + 1 ≤ fr) (hlo2 : 8 + (n + 11) + l2 ≤ lo) (hrest : (rest.map fun v => v.category).sum ≤ 8) (hi : i < zN Z) (hc : zY Z i σ = .inr (ci, fs)) (hcl : vwCl[ci]? = some (y.cls, T, N)) (d : decode cc pc = .ok (.invokevirtual idx, 3)) (hM : Ct (Kl K) Z y b n ret f2 l2 (.ref (zA Z i) :: As) σ (some (.int r)) σ') (k : Y K Z prog E σ' (pc + 3) L (.int r :: rest)) : Y K Z prog E σ pc L st :=
  x_callV C pc As rest hst hlink hm hfr2 hlo2 hrest hi hc hcl d hM k
theorem x_callSi (C : Fx K Z cc own fr lo) (pc : Nat) {idx : Nat} {y : MethodName} {b : ByteArray} {n : Nat} {ret : Option FieldType} {f2 l2 : Nat} {σ' : Wd} {r : Int32} {st : List Value} (As rest : List Value) (hst : st = As.reverse ++ rest) (hlink : Cond.methodLink own idx y ∈ gw_tbl) (hm : Ms y b n ret As.length) (hfr2 : f2 + 1 ≤ fr) (hlo2 : 8 + (n + 11) + l2 ≤ lo) (hrest : (rest.map fun v => v.category).sum ≤ 8) (d : decode cc pc = .ok (.invokestatic idx, 3)) (hM : Ct (Kl K) Z y b n ret f2 l2 As σ (some (.int r)) σ') (k : Y K Z prog E σ' (pc + 3) L (.int r :: rest)) : Y K Z prog E σ pc L st :=
  x_callS C pc As rest hst hlink hm hfr2 hlo2 hrest d hM k

theorem x_callVl (C : Fx K Z cc own fr lo) (pc : Nat) {idx : Nat} {y : MethodName} {b : ByteArray} {n : Nat} {ret : Option FieldType} {f2 l2 i ci N : Nat} {T : u_T} {fs : List Value} {σ' : Wd} {r : Int64} {st : List Value} (As rest : List Value) (hst : st = As.reverse ++ .ref (zA Z i) :: rest) (hlink : Cond.methodLink own idx y ∈ gw_tbl) (hm : Mv y b n ret As.length) (hfr2 : f2 + 1 ≤ fr) (hlo2 : 8 + (n + 11) + l2 ≤ lo) (hrest : (rest.map fun v => v.category).sum ≤ 8) (hi : i < zN Z) (hc : zY Z i σ = .inr (ci, fs)) (hcl : vwCl[ci]? = some (y.cls, T, N)) (d : decode cc pc = .ok (.invokevirtual idx, 3)) (hM : Ct (Kl K) Z y b n ret f2 l2 (.ref (zA Z i) :: As) σ (some (.long r)) σ') (k : Y K Z prog E σ' (pc + 3) L (.long r :: rest)) : Y K Z prog E σ pc L st :=
  x_callV C pc As rest hst hlink hm hfr2 hlo2 hrest hi hc hcl d hM k
theorem x_callSl (C : Fx K Z cc own fr lo) (pc : Nat) {idx : Nat} {y : MethodName} {b : ByteArray} {n : Nat} {ret : Option FieldType} {f2 l2 : Nat} {σ' : Wd} {r : Int64} {st : List Value} (As rest : List Value) (hst : st = As.reverse ++ rest) (hlink : Cond.methodLink own idx y ∈ gw_tbl) (hm : Ms y b n ret As.length) (hfr2 : f2 + 1 ≤ fr) (hlo2 : 8 + (n + 11) + l2 ≤ lo) (hrest : (rest.map fun v => v.category).sum ≤ 8) (d : decode cc pc = .ok (.invokestatic idx, 3)) (hM : Ct (Kl K) Z y b n ret f2 l2 As σ (some (.long r)) σ') (k : Y K Z prog E σ' (pc + 3) L (.long r :: rest)) : Y K Z prog E σ pc L st :=
  x_callS C pc As rest hst hlink hm hfr2 hlo2 hrest d hM k

end XR
