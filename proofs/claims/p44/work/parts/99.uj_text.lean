/-! the text told: all its tokens -/
def tmRx (x : Nat × Nat × Nat) : List Nat := tmR x.1 x.2.1 x.2.2
def tmKx (x : Nat × Nat × Nat) : List (Nat × Nat) := tmK x.1 x.2.1 x.2.2
def csN (fv : Nat → Nat) : Nat → Nat → List Nat → List Nat
  | 0, _, L => L
  | k + 1, i, L => [99, 101, 108, 108] ++ (32 :: ([99, 97 + i] ++ (32 :: (dgT (fv i) ++ (59 :: csN fv k (i + 1) L)))))
def csK (fv : Nat → Nat) : Nat → Nat → List (Nat × Nat) → List (Nat × Nat)
  | 0, _, ts => ts
  | k + 1, i, ts => (22, 0) :: (1, 82 + i) :: (2, fv i) :: (4, 0) :: csK fv k (i + 1) ts
def elN (x : Fw) (L : List Nat) : List Nat := if fwE x = 0 then L else 32 :: ([101, 108, 115, 101] ++ (32 :: ([99, 97 + (fwE x - 1)] ++ (32 :: 32 :: (tmRx x.2.2.2.1 ++ L)))))
def elK (x : Fw) (ts : List (Nat × Nat)) : List (Nat × Nat) := if fwE x = 0 then ts else (26, 0) :: (1, 82 + (fwE x - 1)) :: (tmKx x.2.2.2.1 ++ ts)
def foN (f : Nat) (x : Fw) (L : List Nat) : List Nat := [102, 111, 114, 109] ++ (32 :: ([102, 97 + f] ++ (32 :: ([110, 101, 101, 100, 115] ++ (32 :: (tmRx x.1 ++ (fwS x :: 32 :: (tmRx x.2.1 ++ (32 :: ([115, 101, 116, 115] ++ (32 :: ([99, 97 + fwT x] ++ (32 :: 32 :: (tmRx x.2.2.1 ++ elN x (59 :: L)))))))))))))))
def foK (f : Nat) (x : Fw) (ts : List (Nat × Nat)) : List (Nat × Nat) := (23, 0) :: (1, 163 + f) :: (24, 0) :: (tmKx x.1 ++ ((sgk (fwS x), 0) :: (tmKx x.2.1 ++ ((25, 0) :: (1, 82 + fwT x) :: (tmKx x.2.2.1 ++ elK x ((4, 0) :: ts))))))
def fsN (D : Nat → Fw) : Nat → Nat → List Nat
  | 0, _ => []
  | k + 1, f => foN f (D f) (fsN D k (f + 1))
def fsK (D : Nat → Fw) : Nat → Nat → List (Nat × Nat)
  | 0, _ => []
  | k + 1, f => foK f (D f) (fsK D k (f + 1))
def txN (sd n pr nc nf : Nat) (fv : Nat → Nat) (D : Nat → Fw) : List Nat := [115, 101, 101, 100] ++ (32 :: (dgT sd ++ (59 :: ([99, 111, 112, 105, 101, 115] ++ (32 :: (dgT n ++ (59 :: ([112, 114, 105, 109, 97, 114, 121] ++ (32 :: (dgT pr ++ (59 :: csN fv nc 0 (fsN D nf 0))))))))))))
def txK (sd n pr nc nf : Nat) (fv : Nat → Nat) (D : Nat → Fw) : List (Nat × Nat) := (27, 0) :: (2, sd) :: (4, 0) :: (20, 0) :: (2, n) :: (4, 0) :: (21, 0) :: (2, pr) :: (4, 0) :: csK fv nc 0 (fsK D nf 0)
/-- what a form's word says, in its ranges -/
def FwIn (nc : Nat) (x : Fw) : Prop := nc ≤ 4 ∧ (∀ y, y = x.1 ∨ y = x.2.1 ∨ y = x.2.2.1 ∨ y = x.2.2.2.1 → y.1 < 8 ∧ y.2.1 < 4 ∧ y.2.2 < nc) ∧ (fwS x = 60 ∨ fwS x = 61) ∧ fwT x < nc ∧ fwE x ≤ nc
theorem FwOk.inR {v p q : Int32} {nc : Nat} {x : Fw} (h4 : nc ≤ 4) (h : FwOk v p q nc x) : FwIn nc x := by
  obtain ⟨ha, hb, hc, hd, hs, ht, he⟩ := h
  refine ⟨h4, fun y hy => ?_, hs.2, ht.2, he.1⟩
  rcases hy with rfl | rfl | rfl | rfl
  · exact ⟨ha.1.2, ha.2.1.2, ha.2.2.2⟩
  · exact ⟨hb.1.2, hb.2.1.2, hb.2.2.2⟩
  · exact ⟨hc.1.2, hc.2.1.2, hc.2.2.2⟩
  · exact ⟨hd.1.2, hd.2.1.2, hd.2.2.2⟩
section TZ3
variable {u : Nat → Nat} {e : Nat} {L : List Nat} {ts : List (Nat × Nat)}
theorem Tz.el {nc : Nat} {x : Fw} (hx : FwIn nc x) (h : Tz u e (59 :: L) ts) : Tz u e (elN x (59 :: L)) (elK x ts) := by
  obtain ⟨h4, ht, hs, hb, he⟩ := hx
  unfold elN elK
  by_cases z : fwE x = 0
  · rw [if_pos z, if_pos z]; exact h
  · rw [if_neg z, if_neg z]
    obtain ⟨q1, q2, q3⟩ := ht x.2.2.2.1 (Or.inr (Or.inr (Or.inr rfl)))
    exact Tz.blank (Tz.kw [101, 108, 115, 101] 26 (by decide) (by decide) (by decide) (by decide +kernel) (by decide) (hd_c rfl) (Tz.blank (Tz.cellN (by omega) (hd_c rfl) (Tz.blank (Tz.blank (Tz.tm q1 q2 (by omega) (hd_c rfl) (hd_c rfl) h))))))
theorem el_hd {p : Nat → Bool} {x : Fw} (h1 : p 59 = false) (h2 : p 32 = false) : Hd p (elN x (59 :: L)) := by
  unfold elN
  split
  · exact hd_c h1
  · exact hd_c h2
theorem Tz.fo {nc f : Nat} {x : Fw} (hx : FwIn nc x) (hf : f < 4) (h : Tz u e L ts) : Tz u e (foN f x L) (foK f x ts) := by
  have hx' := hx
  obtain ⟨h4, ht, hs, hb, he⟩ := hx
  obtain ⟨a1, a2, a3⟩ := ht x.1 (Or.inl rfl)
  obtain ⟨b1, b2, b3⟩ := ht x.2.1 (Or.inr (Or.inl rfl))
  obtain ⟨c1, c2, c3⟩ := ht x.2.2.1 (Or.inr (Or.inr (Or.inl rfl)))
  have hsg : isBn (fwS x) = false ∧ isLn (fwS x) = false ∧ isDn (fwS x) = false ∧ sgk (fwS x) = sgk (fwS x) ∧ fwS x < 128 := by
    rcases hs with z | z <;> rw [z] <;> exact ⟨rfl, rfl, rfl, rfl, by decide⟩
  have c59 : isBn 59 = false ∧ isLn 59 = false ∧ isDn 59 = false ∧ sgk 59 = 4 ∧ 59 < 128 := ⟨rfl, rfl, rfl, rfl, by decide⟩
  have e1 : Tz u e (elN x (59 :: L)) (elK x ((4, 0) :: ts)) := Tz.el hx' (Tz.sg c59 h)
  have e2 : Tz u e (tmRx x.2.2.1 ++ elN x (59 :: L)) (tmKx x.2.2.1 ++ elK x ((4, 0) :: ts)) := Tz.tm c1 c2 (by omega) (el_hd rfl rfl) (el_hd rfl rfl) e1
  have e3 := Tz.kw [115, 101, 116, 115] 25 (by decide) (by decide) (by decide) (by decide +kernel) (by decide) (hd_c rfl) (Tz.blank (Tz.cellN (show fwT x < 8 by omega) (hd_c rfl) (Tz.blank (Tz.blank e2))))
  have e4 : Tz u e (tmRx x.2.1 ++ _) (tmKx x.2.1 ++ _) := Tz.tm b1 b2 (by omega) (hd_c rfl) (hd_c rfl) (Tz.blank e3)
  have e5 : Tz u e (tmRx x.1 ++ _) (tmKx x.1 ++ _) := Tz.tm a1 a2 (by omega) (hd_c hsg.2.1) (hd_c hsg.2.2.1) (Tz.sg hsg (Tz.blank e4))
  exact Tz.kw [102, 111, 114, 109] 23 (by decide) (by decide) (by decide) (by decide +kernel) (by decide) (hd_c rfl) (Tz.blank (Tz.formN (by omega) (hd_c rfl) (Tz.blank (Tz.kw [110, 101, 101, 100, 115] 24 (by decide) (by decide) (by decide) (by decide +kernel) (by decide) (hd_c rfl) (Tz.blank e5)))))
theorem Tz.fs {nc : Nat} {D : Nat → Fw} : ∀ k f, f + k ≤ 4 → (0 < k → ∀ f, FwIn nc (D f)) → Tz u e (fsN D k f) (fsK D k f) := by
  intro k
  induction k with
  | zero => intro f _ _; exact Tz.nil
  | succ k ih =>
    intro f hf hD
    exact Tz.fo (hD (Nat.succ_pos _) f) (by omega) (ih (f + 1) (by omega) (fun _ => hD (Nat.succ_pos _)))
theorem Tz.cs {fv : Nat → Nat} (hv : ∀ i, fv i < 12) : ∀ k i (L : List Nat) (ts : List (Nat × Nat)), i + k ≤ 4 → Tz u e L ts → Tz u e (csN fv k i L) (csK fv k i ts) := by
  have c59 : isBn 59 = false ∧ isLn 59 = false ∧ isDn 59 = false ∧ sgk 59 = 4 ∧ 59 < 128 := ⟨rfl, rfl, rfl, rfl, by decide⟩
  intro k
  induction k with
  | zero => intro i L ts _ h; exact h
  | succ k ih =>
    intro i L ts hi h
    have := hv i
    exact Tz.kw [99, 101, 108, 108] 22 (by decide) (by decide) (by decide) (by decide +kernel) (by decide) (hd_c rfl) (Tz.blank (Tz.cellN (by omega) (hd_c rfl) (Tz.blank (Tz.dg (by omega) (hd_c rfl) (Tz.sg c59 (ih (i + 1) L ts (by omega) h))))))
theorem Tz.tx {sd n pr nc nf : Nat} {fv : Nat → Nat} {D : Nat → Fw} (h1 : sd < 1024) (h2 : n ≤ 5) (h3 : pr < 5) (h4 : nc ≤ 4) (h5 : nf ≤ 4) (hv : ∀ i, fv i < 12) (hD : 0 < nf → ∀ f, FwIn nc (D f)) : Tz u e (txN sd n pr nc nf fv D) (txK sd n pr nc nf fv D) := by
  have c59 : isBn 59 = false ∧ isLn 59 = false ∧ isDn 59 = false ∧ sgk 59 = 4 ∧ 59 < 128 := ⟨rfl, rfl, rfl, rfl, by decide⟩
  have e1 := Tz.cs (u := u) (e := e) hv nc 0 _ _ (by omega) (Tz.fs nf 0 (by omega) hD)
  have e2 := Tz.kw [112, 114, 105, 109, 97, 114, 121] 21 (by decide) (by decide) (by decide) (by decide +kernel) (by decide) (hd_c rfl) (Tz.blank (Tz.dg (show pr < 1024 by omega) (hd_c rfl) (Tz.sg c59 e1)))
  have e3 := Tz.kw [99, 111, 112, 105, 101, 115] 20 (by decide) (by decide) (by decide) (by decide +kernel) (by decide) (hd_c rfl) (Tz.blank (Tz.dg (show n < 1024 by omega) (hd_c rfl) (Tz.sg c59 e2)))
  exact Tz.kw [115, 101, 101, 100] 27 (by decide) (by decide) (by decide) (by decide +kernel) (by decide) (hd_c rfl) (Tz.blank (Tz.dg h1 (hd_c rfl) (Tz.sg c59 e3)))
end TZ3
/-! the bytes are these -/
theorem tmX_map {x : Nat × Nat × Nat} : tmX x = (32 :: tmRx x).map nI := tm_map
theorem cs_map {fv : Nat → Nat} : ∀ k i (L : List Nat), csL fv k i ++ L.map nI = (csN fv k i L).map nI := by
  intro k
  induction k with
  | zero => intro i L; rfl
  | succ k ih =>
    intro i L
    show (pw 4 1667591276 0 0 ++ (ceL i ++ (dgN (fv i) ++ ([nI 59] ++ csL fv k (i + 1))))) ++ L.map nI = ([99, 101, 108, 108] ++ (32 :: ([99, 97 + i] ++ (32 :: (dgT (fv i) ++ (59 :: csN fv k (i + 1) L)))))).map nI
    rw [pw_b.2.2.2.2, dg_map]
    unfold ceL
    simp only [List.map_append, List.map_cons, List.map_nil, List.append_assoc, List.cons_append, List.nil_append, ih]
theorem fo_map {f : Nat} {x : Fw} {L : List Nat} : foW f x ++ L.map nI = (foN f x L).map nI := by
  obtain ⟨b1, b2, b3, b4, _⟩ := pw_b
  unfold foW foL foN elL elN
  rw [b1, b2, b3, b4, tmX_map, tmX_map, tmX_map, tmX_map]
  unfold ceL
  split
  · simp only [List.map_append, List.map_cons, List.map_nil, List.append_assoc, List.cons_append, List.nil_append]
  · simp only [List.map_append, List.map_cons, List.map_nil, List.append_assoc, List.cons_append, List.nil_append]
theorem fs_map {D : Nat → Fw} : ∀ k f, fsL D k f = (fsN D k f).map nI := by
  intro k
  induction k with
  | zero => intro f; rfl
  | succ k ih =>
    intro f
    show foW f (D f) ++ fsL D k (f + 1) = (foN f (D f) (fsN D k (f + 1))).map nI
    rw [ih, fo_map]
theorem tx_map {sd n pr nc nf : Nat} {fv : Nat → Nat} {D : Nat → Fw} : txL sd n pr nc nf fv D = (txN sd n pr nc nf fv D).map nI := by
  obtain ⟨c1, c2, c3⟩ := pw_c
  unfold txL txN
  rw [c1, c2, c3, fs_map, cs_map, dg_map, dg_map, dg_map]
  simp only [List.map_append, List.map_cons, List.map_nil, List.append_assoc, List.cons_append, List.nil_append]
