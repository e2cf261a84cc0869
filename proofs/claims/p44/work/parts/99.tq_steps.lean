/-! the law's steps, one by one -/
/-- numbers a change adds to -/
theorem smN_up {g g' : Gs} {j c : Nat} {d : Int32} (h : ∀ x, iC g' j x = if x = c then iC g j x + d else iC g j x) : ∀ n, smN g' j n = if c < n then smN g j n + d else smN g j n := by
  intro n
  induction n with
  | zero => rw [if_neg (by omega)]; rfl
  | succ n ih =>
    show smN g' j n + iC g' j n = if c < n + 1 then smN g j n + iC g j n + d else smN g j n + iC g j n
    rw [ih, h n]
    by_cases e : n = c
    · rw [if_neg (by omega), if_pos e, if_pos (by omega), Int32.add_assoc]
    · rw [if_neg e]
      by_cases q : c < n
      · rw [if_pos q, if_pos (by omega), Int32.add_assoc, Int32.add_assoc, Int32.add_comm d]
      · rw [if_neg q, if_neg (by omega)]
theorem smN_eq {g g' : Gs} {j : Nat} (h : ∀ x, iC g' j x = iC g j x) : ∀ n, smN g' j n = smN g j n := by
  intro n
  induction n with
  | zero => rfl
  | succ n ih => show smN g' j n + iC g' j n = smN g j n + iC g j n; rw [ih, h n]
theorem rfN_up {g g' : Gs} {s : Nat} (h : ∀ x, iRf g' x = if x = s then iRf g x + 1 else iRf g x) : ∀ n, rfN g' n = if s < n then rfN g n + 1 else rfN g n := by
  intro n
  induction n with
  | zero => rw [if_neg (by omega)]; rfl
  | succ n ih =>
    show rfN g' n + iRf g' n = if s < n + 1 then rfN g n + iRf g n + 1 else rfN g n + iRf g n
    rw [ih, h n]
    by_cases e : n = s
    · rw [if_neg (by omega), if_pos e, if_pos (by omega), Int32.add_assoc]
    · rw [if_neg e]
      by_cases q : s < n
      · rw [if_pos q, if_pos (by omega), Int32.add_assoc, Int32.add_assoc, Int32.add_comm 1]
      · rw [if_neg q, if_neg (by omega)]
theorem rfN_eq {g g' : Gs} (h : ∀ x, iRf g' x = iRf g x) : ∀ n, rfN g' n = rfN g n := by
  intro n
  induction n with
  | zero => rfl
  | succ n ih => show rfN g' n + iRf g' n = rfN g n + iRf g n; rw [ih, h n]
theorem SI.of {k : Nat} {g g' : Gs} (h : SI k g) (hW : gW g' ≤ k + 1) (hC : gC g' ≤ k + 1) (hb : ∃ u : Nat → Int32, ∀ x, iC g' 2 x = iC g 2 x + u x ∧ iC g' 3 x = iC g 3 x + u x) (hr : ∀ x, ∃ e, e ≤ 60 ∧ iC g' 0 x = iC g 0 x + nI e) : SI (k + 1) g' := by
  obtain ⟨a, b, c, d⟩ := h
  obtain ⟨u, hu⟩ := hb
  refine ⟨hW, hC, fun x => by rw [(hu x).1, (hu x).2, c], fun x => ?_⟩
  obtain ⟨e, e1, e2⟩ := hr x
  obtain ⟨r, d1, d2⟩ := d x
  exact ⟨r + e, by rw [e2, d1, nI_add], by omega⟩
theorem add_z (x : Int32) : x + nI 0 = x := Int32.add_zero x
section ST2
variable {T : Td} {g : Gs} {un : Nat} {hs sl : Nat → Gs} {hl : Nat → Nat} {σ : Wd} {q : Lq}
/-- a refusal -/
theorem rfG_f {c s : Nat} : gW (shG (uV (opG g c) 5 s (iRf g s + 1)) c) = gW g ∧ gC (shG (uV (opG g c) 5 s (iRf g s + 1)) c) = gC g ∧ gh (shG (uV (opG g c) 5 s (iRf g s + 1)) c) 0 = c ∧ gH (shG (uV (opG g c) 5 s (iRf g s + 1)) c) = min 8 (gH g + 1) ∧ (∀ x, iC (shG (uV (opG g c) 5 s (iRf g s + 1)) c) 0 x = iC g 0 x) ∧ (∀ x, iC (shG (uV (opG g c) 5 s (iRf g s + 1)) c) 2 x = if x = c then iC g 2 x + 1 else iC g 2 x) ∧ (∀ x, iC (shG (uV (opG g c) 5 s (iRf g s + 1)) c) 3 x = if x = c then iC g 3 x + 1 else iC g 3 x) ∧ (∀ x, iRf (shG (uV (opG g c) 5 s (iRf g s + 1)) c) x = if x = s then iRf g x + 1 else iRf g x) := by
  refine ⟨rfl, rfl, rfl, rfl, fun _ => rfl, fun x => ?_, fun x => ?_, fun x => ?_⟩
  · show (if (1 + 2 = 3 ∧ x = c) then _ else _) = _
    by_cases e : x = c
    · subst e; rw [if_pos ⟨rfl, rfl⟩, if_pos rfl]; try rfl
    · rw [if_neg (fun z => e z.2), if_neg e]; try rfl
  · show (if (1 + 3 = 4 ∧ x = c) then _ else _) = _
    by_cases e : x = c
    · subst e; rw [if_pos ⟨rfl, rfl⟩, if_pos rfl]; try rfl
    · rw [if_neg (fun z => e z.2), if_neg e]; try rfl
  · show (if (5 = 5 ∧ x = s) then _ else _) = _
    by_cases e : x = s
    · subst e; rw [if_pos ⟨rfl, rfl⟩, if_pos rfl]; try rfl
    · rw [if_neg (fun z => e z.2), if_neg e]; try rfl
theorem one_b {g g' : Gs} {c : Nat} (h2 : ∀ x, iC g' 2 x = if x = c then iC g 2 x + 1 else iC g 2 x) (h3 : ∀ x, iC g' 3 x = if x = c then iC g 3 x + 1 else iC g 3 x) : ∃ u : Nat → Int32, ∀ x, iC g' 2 x = iC g 2 x + u x ∧ iC g' 3 x = iC g 3 x + u x := by
  refine ⟨fun x => if x = c then 1 else 0, fun x => ?_⟩
  rw [h2, h3]
  by_cases e : x = c
  · rw [if_pos e, if_pos e]
    show _ = iC g 2 x + (if x = c then 1 else 0) ∧ _ = iC g 3 x + (if x = c then 1 else 0)
    rw [if_pos e]; exact ⟨rfl, rfl⟩
  · rw [if_neg e, if_neg e]
    show _ = iC g 2 x + (if x = c then 1 else 0) ∧ _ = iC g 3 x + (if x = c then 1 else 0)
    rw [if_neg e]; exact ⟨(Int32.add_zero _).symm, (Int32.add_zero _).symm⟩
theorem rfG_S {k c s : Nat} (hS : SI k g) : SI (k + 1) (shG (uV (opG g c) 5 s (iRf g s + 1)) c) := by
  obtain ⟨f1, f2, f3, f4, f5, f6, f7, f8⟩ := rfG_f (g := g) (c := c) (s := s)
  exact hS.of (by rw [f1]; have := hS.1; omega) (by rw [f2]; have := hS.2.1; omega) (one_b f6 f7) (fun x => ⟨0, by omega, by rw [f5, add_z]⟩)
theorem vec_at {g g' : Gs} {c o : Nat} (h : ∀ t x y, t = 8 ∨ t = 9 ∨ t = 11 → g'.1 t x y = g.1 t x y) : ∀ k, vecN g' c o k = vecN g c o k := by
  intro k
  induction k with
  | zero => rfl
  | succ k ih =>
    show (if gA g' c k = 1 ∧ gN g' k = o then max (vecN g' c o k) (gS g' k) else vecN g' c o k) = (if gA g c k = 1 ∧ gN g k = o then max (vecN g c o k) (gS g k) else vecN g c o k)
    rw [ih, show gA g' c k = gA g c k from h 11 c k (by simp), show gN g' k = gN g k from h 8 k 0 (by simp), show gS g' k = gS g k from h 9 k 0 (by simp)]
/-- the lead handed over -/
theorem s_lead (h : At T g un hs sl hl σ) (hU : un < 40) {k n a b : Nat} (hn : n < 44) (ha : a ≤ tN T) (hb : b ≤ tN T) (hS : SI k g) : Ends T un k sl hl n (bnd2 (M_X8_lead σ (nI a)) fun r1307 s_1307 => if r1307 = 0 then (M_L_law_J1356 q s_1307 (nI (tN T)) (nI (tC T)) (nI n) (nI a) (nI b) (nI (gW g)) (nI (gO g)) (smN g 0 (tN T)) (smN g 2 (tN T)) (rfN g 4) (nI un) (copyV T g a 0) (copyV T g b 1) (nI (gQ g 0)) (nI (gP g)) r1307) else (if nI a = nI (gP g) then (M_L_law_J1360 q s_1307 (nI (tN T)) (nI (tC T)) (nI n) (nI a) (nI b) (nI (gW g)) (nI (gO g)) (smN g 0 (tN T)) (smN g 2 (tN T)) (rfN g 4) (nI un) (copyV T g a 0) (copyV T g b 1) (nI (gQ g 0)) (nI (gP g)) r1307) else (bnd2 (M_X8_count s_1307 (5 : Int32)) fun r1326 s_1326 => if r1326 ≠ nI a then (M_L_law_J1360 q s_1326 (nI (tN T)) (nI (tC T)) (nI n) (nI a) (nI b) (nI (gW g)) (nI (gO g)) (smN g 0 (tN T)) (smN g 2 (tN T)) (rfN g 4) (nI un) (copyV T g a 0) (copyV T g b 1) (nI (gQ g 0)) (nI (gP g)) r1307) else (bnd2 (M_X8_copy s_1326 (nI a) (2 : Int32)) fun r1338 s_1338 => if r1338 ≠ nI (gO g) then (M_L_law_J1360 q s_1338 (nI (tN T)) (nI (tC T)) (nI n) (nI a) (nI b) (nI (gW g)) (nI (gO g)) (smN g 0 (tN T)) (smN g 2 (tN T)) (rfN g 4) (nI un) (copyV T g a 0) (copyV T g b 1) (nI (gQ g 0)) (nI (gP g)) r1307) else (bnd1 (M_X8_shut s_1338 (0 : Int32)) fun r1348 => if r1348 ≠ nI a then (M_L_law_J1360 q s_1338 (nI (tN T)) (nI (tC T)) (nI n) (nI a) (nI b) (nI (gW g)) (nI (gO g)) (smN g 0 (tN T)) (smN g 2 (tN T)) (rfN g 4) (nI un) (copyV T g a 0) (copyV T g b 1) (nI (gQ g 0)) (nI (gP g)) r1307) else (M_L_law_J1356 q s_1338 (nI (tN T)) (nI (tC T)) (nI n) (nI a) (nI b) (nI (gW g)) (nI (gO g)) (smN g 0 (tN T)) (smN g 2 (tN T)) (rfN g 4) (nI un) (copyV T g a 0) (copyV T g b 1) (nI (gQ g 0)) (nI (gP g)) r1307)))))) := by
  have n5 := h.n5
  rcases x_lead h hU (a := a) (by omega) with e | ⟨ha', hP, hK, σ', e, h'⟩
  · rw [e, bnd2_some, if_pos rfl]
    exact s_1410 hU hn ha hb hS (Or.inl ⟨rfl, h⟩)
  · obtain ⟨σ2, e2, h2⟩ := x_copy h' (c := a) (k := 2) (by omega) (by decide)
    have c2 : copyV T (shG (uG (opG g a) 2 0 0 a) a) a 2 = nI (gO g) := by
      unfold copyV
      rw [if_pos ha', if_neg (by decide), if_neg (by decide), if_pos rfl]
      exact congrArg nI hK
    rw [c2] at e2
    have e3 := x_shut h2 (i := 0) (by decide)
    rw [if_pos (show 0 < gH (shG (uG (opG g a) 2 0 0 a) a) by show 0 < min 8 (gH g + 1); omega)] at e3
    have hSS : SI (k + 1) (shG (uG (opG g a) 2 0 0 a) a) := by
      refine hS.of (by show gW g ≤ _; have := hS.1; omega) (by show gC g ≤ _; have := hS.2.1; omega) (one_b (c := a) (fun x => ?_) (fun x => ?_)) (fun x => ⟨0, by omega, by rw [add_z]; rfl⟩)
      · show (if (1 + 2 = 3 ∧ x = a) then _ else _) = _
        by_cases e : x = a
        · subst e; rw [if_pos ⟨rfl, rfl⟩, if_pos rfl]; try rfl
        · rw [if_neg (fun z => e z.2), if_neg e]; try rfl
      · show (if (1 + 3 = 4 ∧ x = a) then _ else _) = _
        by_cases e : x = a
        · subst e; rw [if_pos ⟨rfl, rfl⟩, if_pos rfl]; try rfl
        · rw [if_neg (fun z => e z.2), if_neg e]; try rfl
    rw [e, bnd2_some, if_neg n10, if_neg (fun z => hP ((nI_eq (by omega) (by omega)).mp z)), x_count5 h', bnd2_some, show gP (shG (uG (opG g a) 2 0 0 a) a) = a from rfl, if_neg (fun z => z rfl), show M_X8_copy σ' (nI a) 2 = _ from e2, bnd2_some, if_neg (fun z => z rfl), show M_X8_shut σ2 0 = _ from e3, bnd1_some, show gh (shG (uG (opG g a) 2 0 0 a) a) 0 = a from rfl, if_neg (fun z => z rfl)]
    exact s_1410 hU hn ha hb hS (Or.inr ⟨rfl, _, hSS, h2⟩)
/-- a promise -/
theorem s_promise (h : At T g un hs sl hl σ) (hU : un < 40) {k n a b v : Nat} (hv : v < 16) (hn : n < 44) (ha : a ≤ tN T) (hb : b ≤ tN T) (hS : SI k g) : Ends T un k sl hl n (bnd2 (M_X8_promise σ (0 : Int32) (nI v)) fun r1196 s_1196 => if nI v = nI (gQ g 0) then (M_L_law_J1215 q s_1196 (nI (tN T)) (nI (tC T)) (nI n) (nI a) (nI b) (nI (gW g)) (nI (gO g)) (smN g 0 (tN T)) (smN g 2 (tN T)) (rfN g 4) (nI un) (copyV T g a 0) (copyV T g b 1) (nI (gQ g 0)) (nI (gP g)) r1196 (nI v) (0 : Int32) r1196) else (M_L_law_J1215 q s_1196 (nI (tN T)) (nI (tC T)) (nI n) (nI a) (nI b) (nI (gW g)) (nI (gO g)) (smN g 0 (tN T)) (smN g 2 (tN T)) (rfN g 4) (nI un) (copyV T g a 0) (copyV T g b 1) (nI (gQ g 0)) (nI (gP g)) r1196 (nI v) (1 : Int32) r1196)) := by
  have n5 := h.n5
  have hq := (x_sess h (s := 0) (by decide)).2.2.2
  rcases x_promise h hU (s := 0) (by decide) hv with ⟨e0, e⟩ | ⟨e0, σ', e, h'⟩
  · obtain ⟨e4, _⟩ := x_sess h (s := 0) (by decide)
    rw [show M_X8_promise σ 0 (nI v) = _ from e, bnd2_some, if_pos (by rw [e0])]
    unfold M_L_law_J1215 M_L_law_J1234
    rw [if_neg (fun z => z rfl), show M_X8_session σ 0 0 = _ from e4, bnd1_some, if_neg (fun z => z (by rw [e0])), chk_pos ((ib_nI (by omega)).mpr (by omega)), if_neg z00]
    have := s_1410 (q := q) hU hn ha hb hS (Or.inl ⟨rfl, h⟩)
    split <;> exact this
  · obtain ⟨e4, _⟩ := x_sess h' (s := 0) (by decide)
    rw [show gQ (uG g 12 0 0 v) 0 = v from rfl] at e4
    have hSS : SI (k + 1) (uG g 12 0 0 v) := hS.of (by show gW g ≤ _; have := hS.1; omega) (by show gC g ≤ _; have := hS.2.1; omega) ⟨fun _ => 0, fun x => ⟨(Int32.add_zero _).symm, (Int32.add_zero _).symm⟩⟩ (fun x => ⟨0, by omega, by rw [add_z]; rfl⟩)
    rw [show M_X8_promise σ 0 (nI v) = _ from e, bnd2_some, if_neg (fun z => e0 ((nI_eq (by omega) (by omega)).mp z).symm)]
    unfold M_L_law_J1215 M_L_law_J1234
    rw [if_neg (fun z => z rfl), show M_X8_session σ' 0 0 = _ from e4, bnd1_some, if_neg (fun z => z rfl), chk_pos ((ib_nI (by omega)).mpr (by omega))]
    by_cases hb0 : (((lX q (ix (nI n))) >>> ((14 : Int32) &&& 31)) &&& (1 : Int32)) = 0
    · rw [if_pos hb0]
      exact s_1410 hU hn ha hb hS (Or.inr ⟨rfl, _, hSS, h'⟩)
    · obtain ⟨σ1, e1, hu⟩ := x_undo h'
      rw [show pushH hs un g un = g from if_neg (Nat.lt_irrefl _)] at hu
      rw [if_neg hb0, if_pos n01, if_neg n10, e1, bnd2_some, if_neg n10]
      unfold M_L_law_J1273
      have := s_1410 (q := q) (hs := pushH hs un g) hU hn ha hb hS (Or.inl ⟨rfl, hu⟩)
      exact this
end ST2
