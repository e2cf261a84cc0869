/-! what both worlds stand for -/
/-- all that goes on: numbers by a tag and two places; ints by a tag and a place -/
abbrev Gs : Type := (Nat → Nat → Nat → Nat) × (Nat → Nat → Int32)
abbrev gW (g : Gs) : Nat := g.1 0 0 0
abbrev gO (g : Gs) : Nat := g.1 1 0 0
abbrev gP (g : Gs) : Nat := g.1 2 0 0
abbrev gC (g : Gs) : Nat := g.1 3 0 0
abbrev gH (g : Gs) : Nat := g.1 4 0 0
abbrev gh (g : Gs) (k : Nat) : Nat := g.1 5 k 0
abbrev gK (g : Gs) (c : Nat) : Nat := g.1 6 c 0
abbrev gF (g : Gs) (w : Nat) : Nat := g.1 7 w 0
abbrev gN (g : Gs) (w : Nat) : Nat := g.1 8 w 0
abbrev gS (g : Gs) (w : Nat) : Nat := g.1 9 w 0
abbrev gD (g : Gs) (i : Nat) : Nat := g.1 10 i 0
abbrev gA (g : Gs) (c w : Nat) : Nat := g.1 11 c w
abbrev gQ (g : Gs) (s : Nat) : Nat := g.1 12 s 0
abbrev gE (g : Gs) (s o : Nat) : Nat := g.1 13 s o
abbrev gU (g : Gs) (s o : Nat) : Nat := g.1 14 s o
abbrev iX (g : Gs) (w : Nat) : Int32 := g.2 0 w
abbrev iC (g : Gs) (j c : Nat) : Int32 := g.2 (1 + j) c
abbrev iRf (g : Gs) (s : Nat) : Int32 := g.2 5 s
abbrev iGt (g : Gs) (s : Nat) : Int32 := g.2 6 s
/-- the model's row -/
def MR (g : Gs) (f : Nat → Int32) : Prop :=
  (f 0 = nI (gW g) ∧ f 1 = nI (gO g) ∧ f 2 = nI (gP g) ∧ f 3 = nI (gC g) ∧ f 4 = nI (gH g)) ∧
  (∀ k, k < gH g → f (5 + k) = nI (gh g k)) ∧
  (∀ c, c < 5 → f (15 + 6 * c) = nI (gK g c) ∧ ∀ j, j < 4 → f (15 + 6 * c + 1 + j) = iC g j c) ∧
  (∀ s, s < 4 → f (50 + 14 * s) = nI (gQ g s) ∧ f (50 + 14 * s + 1) = iRf g s ∧ f (50 + 14 * s + 2) = iGt g s ∧ ∀ o, o < 5 → f (50 + 14 * s + 3 + o) = nI (gE g s o) ∧ f (50 + 14 * s + 8 + o) = nI (gU g s o)) ∧
  (∀ w, w < gW g → f (110 + 5 * w) = nI (gF g w) ∧ f (110 + 5 * w + 1) = iX g w ∧ f (110 + 5 * w + 2) = nI (gN g w) ∧ f (110 + 5 * w + 3) = nI (gS g w) ∧ ((∀ i, i < gO g → gD g i ≠ w) → f (110 + 5 * w + 4) = -2)) ∧
  (∀ i, i < gO g → f (410 + i) = nI (gD g i) ∧ f (110 + 5 * gD g i + 4) = nI i) ∧
  (∀ c w, c < 5 → w < 60 → f (470 + 60 * c + w) = nI (gA g c w))
/-- the class's row of longs -/
def CR (n : Nat) (g : Gs) (r : Nat → Int64) : Prop :=
  (r 0 = lN n ∧ r 1 = lN (gP g) ∧ r 2 = lN (gW g) ∧ r 3 = lN (gO g) ∧ r 4 = lN (gC g) ∧ r 5 = lN (gH g)) ∧
  (∀ k, k < gH g → r (36 + k) = lN (gh g k)) ∧
  (∀ c, c < 5 → (∀ w, w < 64 → (r (6 + c)).toBitVec.getLsbD w = decide (w < 60 ∧ gA g c w = 1)) ∧ r (11 + c) = lN (gK g c) ∧ (r (16 + c)).toInt32 = iC g 0 c ∧ (r (21 + c)).toInt32 = iC g 1 c ∧ (r (26 + c)).toInt32 = iC g 2 c ∧ (r (31 + c)).toInt32 = iC g 3 c) ∧
  (∀ s, s < 4 → r (44 + s) = lN (gQ g s) ∧ (r (48 + s)).toInt32 = iRf g s ∧ (r (52 + s)).toInt32 = iGt g s ∧ ∀ o, o < 5 → r (56 + 5 * s + o) = lN (gE g s o) ∧ r (76 + 5 * s + o) = lN (gU g s o))
/-- the class's rows of WRITES, of the object at the cell b -/
def CA (g : Gs) (b : Nat) (σ : Wd) : Prop :=
  (∀ w, w < gW g → gI σ (b + 2) w = nI (gF g w) ∧ gI σ (b + 3) w = iX g w ∧ gI σ (b + 4) w = nI (gN g w) ∧ gI σ (b + 5) w = nI (gS g w)) ∧
  (∀ i, i < gO g → gI σ (b + 6) i = nI (gD g i))
/-- what always holds: n copies, m FORMS -/
def Inv (n m : Nat) (g : Gs) : Prop :=
  (gW g ≤ 60 ∧ gO g ≤ gW g ∧ gP g < n ∧ gH g ≤ 8 ∧ n ≤ 5 ∧ 1 ≤ n) ∧
  (∀ k, k < gH g → gh g k < n) ∧
  (∀ c, c < 5 → gK g c ≤ gO g) ∧ gK g (gP g) = gO g ∧
  (∀ c w, gA g c w ≤ 1) ∧ (∀ c w, gA g c w = 1 → w < gW g ∧ c < n) ∧
  (∀ c i, c < n → i < gK g c → gA g c (gD g i) = 1) ∧
  (∀ i, i < gO g → gD g i < gW g) ∧ (∀ i j, i < gO g → j < gO g → gD g i = gD g j → i = j) ∧
  (∀ w, w < gW g → gF g w < m ∧ gN g w < n ∧ 1 ≤ gS g w ∧ gS g w ≤ w + 1 ∧ gA g (gN g w) w = 1) ∧
  (∀ w v, w < v → v < gW g → gN g w = gN g v → gS g w < gS g v) ∧
  (∀ s, s < 4 → gQ g s ≤ 15 ∧ ∀ o, gE g s o ≤ 60 ∧ gU g s o ≤ 60) ∧
  (∀ j c, j < 4 → n ≤ c → c < 5 → iC g j c = 0) ∧ (∀ c, n ≤ c → gK g c = 0)
/-- a text: numbers (0 copies, 1 primary, 2 seed, 3 cells, 4 forms, 5 less, 6 target, 7 else: 0 none, or the cell and 1), what is in the cells at first, the codes by form and part -/
abbrev Td : Type := (Nat → Nat → Nat) × (Nat → Int32) × (Nat → Nat → List (Nat × Int32))
abbrev tN (T : Td) : Nat := T.1 0 0
abbrev tP (T : Td) : Nat := T.1 1 0
abbrev tS (T : Td) : Nat := T.1 2 0
abbrev tC (T : Td) : Nat := T.1 3 0
abbrev tF (T : Td) : Nat := T.1 4 0
abbrev tL (T : Td) (f : Nat) : Nat := T.1 5 f
abbrev tT (T : Td) (f : Nat) : Nat := T.1 6 f
abbrev tE (T : Td) (f : Nat) : Nat := T.1 7 f
abbrev tI (T : Td) (c : Nat) : Int32 := T.2.1 c
abbrev tX (T : Td) (f p : Nat) : List (Nat × Int32) := T.2.2 f p
/-- a code that never wants room nor what is not there, from a stack of d on: nc cells -/
def wfC (nc : Nat) : List (Nat × Int32) → Nat → Prop
  | [], d => d = 1
  | (k, v) :: cs, d => (k = 0 ∧ d < 32 ∧ wfC nc cs (d + 1)) ∨ (k = 1 ∧ d < 32 ∧ (∃ j, v = nI j ∧ (j < nc ∨ 6 ≤ j ∧ j < 9)) ∧ wfC nc cs (d + 1)) ∨ (2 ≤ k ∧ k ≤ 5 ∧ 2 ≤ d ∧ wfC nc cs (d - 1))
def TInv (T : Td) : Prop :=
  1 ≤ tN T ∧ tN T ≤ 5 ∧ tP T < tN T ∧ tS T ≤ 9999 ∧ tC T ≤ 6 ∧ tF T ≤ 6 ∧
  ∀ f, f < tF T → tL T f ≤ 1 ∧ tT T f < tC T ∧ tE T f ≤ tC T ∧ ∀ p, p < 4 → (p < 3 ∨ tE T f ≠ 0) → wfC (tC T) (tX T f p) 0
/-- how the class and the model tell a step of a code -/
def ckd (k : Nat) (v : Int32) : Int32 × Int32 :=
  if k = 0 then (0, v) else if k = 1 then (if v = 6 then (2, 0) else if v = 7 then (3, 0) else if v = 8 then (4, 0) else (1, v)) else (5, if k = 2 then 43 else if k = 3 then 45 else if k = 4 then 42 else 47)
def CC (cs : List (Nat × Int32)) (a : Nat) (ks vs : Nat → Int32) : Prop := ∀ i, i < cs.length → (ks (a + i) = (ckd (cs.getD i (0, 0)).1 (cs.getD i (0, 0)).2).1 ∧ ((cs.getD i (0, 0)).1 ≠ 1 ∨ (cs.getD i (0, 0)).2 < 6 → vs (a + i) = (ckd (cs.getD i (0, 0)).1 (cs.getD i (0, 0)).2).2))
def CM (cs : List (Nat × Int32)) (a : Nat) (ks vs : Nat → Int32) : Prop := ∀ i, i < cs.length → ks (a + i) = nI (cs.getD i (0, 0)).1 ∧ ((cs.getD i (0, 0)).1 < 2 → vs (a + i) = (cs.getD i (0, 0)).2)
/-- the class's Told at the cell t -/
def TC (T : Td) (t : Nat) (σ : Wd) : Prop :=
  (gI σ t 0 = nI (tN T) ∧ gI σ t 1 = nI (tP T) ∧ gI σ t 2 = nI (tS T) ∧ gI σ t 3 = nI (tC T) ∧ gI σ t 4 = nI (tF T)) ∧
  (∀ c, c < tC T → gI σ (t + 1) c = tI T c) ∧
  (∀ f, f < tF T → gI σ (t + 2) f = nI (tL T f) ∧ gI σ (t + 3) f = nI (tT T f) ∧ gI σ (t + 4) f = (if tE T f = 0 then -1 else nI (tE T f - 1)) ∧
    ∀ p, p < 4 → (p < 3 ∨ tE T f ≠ 0) → ∃ a, gI σ (t + 5) (4 * f + p) = nI a ∧ gI σ (t + 6) (4 * f + p) = nI (a + (tX T f p).length) ∧ a + (tX T f p).length ≤ 400 ∧ CC (tX T f p) a (gI σ (t + 7)) (gI σ (t + 8)))
/-- the model's text on the side l -/
def TM (T : Td) (l : Nat) (τ : Wd) : Prop :=
  (gI τ 10 l = nI (tN T) ∧ gI τ 11 l = nI (tP T) ∧ gI τ 19 l = nI (tS T) ∧ gI τ 12 l = nI (tC T) ∧ gI τ 14 l = nI (tF T)) ∧
  (∀ c, c < tC T → gI τ 13 (6 * l + c) = tI T c) ∧
  (∀ f, f < tF T → gI τ 15 (6 * l + f) = (if tL T f = 1 then 13 else 5) ∧ gI τ 16 (6 * l + f) = nI (tT T f) ∧ gI τ 17 (6 * l + f) = (if tE T f = 0 then -1 else nI (tE T f - 1)) ∧
    ∀ p, p < 4 → (p < 3 ∨ tE T f ≠ 0) → ∃ a, gI τ 18 (5 * (6 * l + f) + p) = nI a ∧ gI τ 18 (5 * (6 * l + f) + p + 1) = nI (a + (tX T f p).length) ∧ (a + (tX T f p).length ≤ 840 ∧ 420 * l ≤ a ∧ a + (tX T f p).length ≤ 420 * l + 420) ∧ CM (tX T f p) a (gI τ 20) (gI τ 21))
def keyv (k : Nat) : Int64 := ([51339979, 6462048238, 63030, 129532, 7542361, 378181, 107681, 377761, 24, 10492135, 224982050] : List Int64).getD k 0
/-- both worlds stand for one thing -/
def Rel (σ τ : Wd) : Prop :=
  ∃ (T : Td) (t l tp un nx : Nat) (g : Gs) (hs sl : Nat → Gs) (hl : Nat → Nat),
    (tp ≤ 2000 ∧ gI σ 0 1 = nI tp ∧ gI τ 0 2 = nI tp ∧ (∀ i, i < tp → gI σ 1 i = gI τ 1 i ∧ (gI σ 1 i).toInt8.toInt32 = gI σ 1 i)) ∧
    gI σ 0 2 = gI τ 0 17 ∧
    ((t = 10 ∨ t = 19) ∧ gR σ 0 4 = t ∧ gR σ 0 5 = 29 - t ∧ l < 2 ∧ gI τ 0 18 = nI l ∧ TInv T ∧ TC T t σ ∧ TM T l τ) ∧
    (CR (tN T) g (σ.2.1 29) ∧ CA g 28 σ ∧ MR g (τ.1 25) ∧ Inv (tN T) (tF T) g) ∧
    (un ≤ 40 ∧ nx < 40 ∧ gI σ 66 2 = nI un ∧ gI σ 66 1 = nI nx ∧ gI τ 0 51 = nI un ∧ ∀ u, u < un → CR (tN T) (hs u) (σ.2.1 (68 + (nx + 40 - un + u) % 40)) ∧ CA (hs u) 28 σ ∧ MR (hs u) (fun k => gI τ 32 (770 * u + k)) ∧ Inv (tN T) (tF T) (hs u) ∧ gW (hs u) ≤ gW g ∧ gO (hs u) ≤ gO g ∧ ∀ v, u ≤ v → v < un → gW (hs u) ≤ gW (hs v) ∧ gO (hs u) ≤ gO (hs v)) ∧
    (∀ k, k < 3 → hl k ≤ 1 ∧ gI σ 65 k = nI (hl k) ∧ gI τ 35 k = nI (hl k) ∧ (hl k = 1 → CR (tN T) (sl k) (σ.2.1 (38 + 9 * k)) ∧ CA (sl k) (37 + 9 * k) σ ∧ MR (sl k) (fun j => gI τ 36 (770 * k + j)) ∧ Inv (tN T) (tF T) (sl k))) ∧
    (∀ k, k < 11 → gL τ 7 k = keyv k)
