/-! the text told: tokens -/
/-- what stands from a place on to the end -/
def Sf (u : Nat → Nat) (e p : Nat) (L : List Nat) : Prop := p + L.length = e ∧ ∀ i, i < L.length → u (p + i) = L.getD i 0
/-- the token P begins behind the blanks from here on -/
def At0 (u : Nat → Nat) (e P : Nat) (L : List Nat) : Prop := Rch u e P ∧ ∃ q, Sf u e q L ∧ sq u e P = rn (fun i => isBn (u i)) e q
/-- these tokens, then the end -/
def Tks (u : Nat → Nat) (e : Nat) : Nat → List (Nat × Nat) → Prop
  | P, [] => Rch u e P ∧ kTk u e P = 0
  | P, (k, v) :: ts => Rch u e P ∧ kTk u e P = k ∧ (k = 1 ∨ k = 2 → vTk u e P = v) ∧ Tks u e (P + 1) ts
def Tz (u : Nat → Nat) (e : Nat) (L : List Nat) (ts : List (Nat × Nat)) : Prop := (∀ x ∈ L, x < 128) ∧ ∀ P, At0 u e P L → Tks u e P ts
/-- what begins so that no such byte stands there -/
def Hd (p : Nat → Bool) (L : List Nat) : Prop := L = [] ∨ ∃ c r, L = c :: r ∧ p c = false
section TZ
variable {u : Nat → Nat} {e : Nat}
theorem Sf.app {p : Nat} {A L : List Nat} (h : Sf u e p (A ++ L)) : Sf u e (p + A.length) L ∧ ∀ i, i < A.length → u (p + i) = A.getD i 0 := by
  obtain ⟨h1, h2⟩ := h
  rw [List.length_append] at h1 h2
  refine ⟨⟨by omega, fun i hi => ?_⟩, fun i hi => ?_⟩
  · rw [Nat.add_assoc, h2 (A.length + i) (by omega), List.getD_eq_getElem?_getD, List.getElem?_append_right (by omega), Nat.add_sub_cancel_left, List.getD_eq_getElem?_getD]
  · rw [h2 i (by omega), List.getD_eq_getElem?_getD, List.getElem?_append_left hi, List.getD_eq_getElem?_getD]
theorem Sf.cons {p c : Nat} {L : List Nat} (h : Sf u e p (c :: L)) : p < e ∧ u p = c ∧ Sf u e (p + 1) L := by
  obtain ⟨h1, h2⟩ := Sf.app (A := [c]) (L := L) h
  have := h.1
  have h3 := h2 0 Nat.one_pos
  refine ⟨?_, h3, h1⟩
  rw [List.length_cons] at this
  omega
/-- a run over a list -/
theorem rn_run {P : Nat → Bool} {L : List Nat} (hL : Hd P L) : ∀ (A : List Nat) (p : Nat), Sf u e p (A ++ L) → (∀ x ∈ A, P x = true) → rn (fun i => P (u i)) e p = p + A.length := by
  intro A
  induction A with
  | nil =>
    intro p h _
    have h : Sf u e p L := h
    refine rn_st (fun z => ?_)
    rcases hL with q | ⟨c, r, q, qc⟩
    · rw [q] at h
      have := h.1
      have l0 : ([] : List Nat).length = 0 := rfl
      omega
    · rw [q] at h
      have z2 := z.2
      have := h.cons.2.1
      have z2 : P (u p) = true := z2
      rw [this, qc] at z2
      exact Bool.noConfusion z2
  | cons x A ih =>
    intro p h hA
    have h : Sf u e p (x :: (A ++ L)) := h
    obtain ⟨h1, h2, h3⟩ := h.cons
    rw [rn_go (P := fun i => P (u i)) h1 (by show P (u p) = true; rw [h2]; exact hA x List.mem_cons_self), ih (p + 1) h3 (fun y hy => hA y (List.mem_cons_of_mem _ hy)), List.length_cons]
    omega
theorem At0.blank {P : Nat} {L : List Nat} (h : At0 u e P (32 :: L)) : At0 u e P L := by
  obtain ⟨h1, q, h2, h3⟩ := h
  obtain ⟨a, b, c⟩ := h2.cons
  refine ⟨h1, q + 1, c, ?_⟩
  rw [h3, rn_go (P := fun i => isBn (u i)) a (by show isBn (u q) = true; rw [b]; rfl)]
theorem Tz.blank {L : List Nat} {ts : List (Nat × Nat)} (h : Tz u e L ts) : Tz u e (32 :: L) ts := ⟨fun x hx => by
  rcases List.mem_cons.mp hx with rfl | hx
  · decide
  · exact h.1 x hx, fun P hP => h.2 P hP.blank⟩
theorem Tz.nil : Tz u e [] [] := by
  refine ⟨fun x hx => absurd hx List.not_mem_nil, fun P hP => ?_⟩
  obtain ⟨h1, q, h2, h3⟩ := hP
  have hq : q + 0 = e := h2.1
  refine ⟨h1, ?_⟩
  have hs : sq u e P = e := by rw [h3, rn_st (fun z => by omega)]; omega
  exact kTk_VK.2.2 (by omega)
/-- the place of a token that begins without a blank -/
theorem At0.here {P c : Nat} {L : List Nat} (h : At0 u e P (c :: L)) (hc : isBn c = false) : Rch u e P ∧ sq u e P < e ∧ Rch u e (P + 1) ∧ Sf u e (sq u e P) (c :: L) ∧ kTk u e P = tkK u e (sq u e P) := by
  obtain ⟨h1, q, h2, h3⟩ := h
  obtain ⟨a, b, c'⟩ := h2.cons
  have hs : sq u e P = q := by
    rw [h3]
    refine rn_st (fun z => ?_)
    have z2 := z.2
    have z2 : isBn (u q) = true := z2
    rw [b, hc] at z2
    exact Bool.noConfusion z2
  refine ⟨h1, by rw [hs]; exact a, fun j hj => ?_, by rw [hs]; exact h2, if_pos (by rw [hs]; exact a)⟩
  by_cases e0 : j = P
  · rw [e0, hs]; exact a
  · exact h1 j (by omega)
theorem wM_cong {u' : Nat → Nat} {p : Nat} : ∀ j, (∀ i, i < j → u (p + i) = u' (0 + i)) → wM u p j = wM u' 0 j := by
  intro j
  induction j with
  | zero => intro _; rfl
  | succ j ih =>
    intro h
    show 27 * wM u p j + (u (p + j) - 96) = 27 * wM u' 0 j + (u' (0 + j) - 96)
    rw [ih (fun i hi => h i (by omega)), h j (by omega)]
theorem dM_cong {u' : Nat → Nat} {p : Nat} : ∀ j, (∀ i, i < j → u (p + i) = u' (0 + i)) → dM u p j = dM u' 0 j := by
  intro j
  induction j with
  | zero => intro _; rfl
  | succ j ih =>
    intro h
    show 10 * dM u p j + (u (p + j) - 48) = 10 * dM u' 0 j + (u' (0 + j) - 48)
    rw [ih (fun i hi => h i (by omega)), h j (by omega)]
def wl (w : List Nat) : Nat := wM (fun i => w.getD i 0) 0 w.length
def dl (w : List Nat) : Nat := dM (fun i => w.getD i 0) 0 w.length
theorem ln_not {c : Nat} (h : isLn c = true) : isBn c = false ∧ isDn c = false := by
  have h := isLn_bd.mp h
  unfold isBn isDn
  rw [decide_eq_false (show ¬ c = 9 by omega), decide_eq_false (show ¬ c = 10 by omega), decide_eq_false (show ¬ c = 13 by omega), decide_eq_false (show ¬ c = 32 by omega), decide_eq_false (show ¬ c ≤ 57 by omega), Bool.and_false]
  exact ⟨rfl, rfl⟩
theorem dn_not {c : Nat} (h : isDn c = true) : isBn c = false ∧ isLn c = false := by
  have h := isDn_bd.mp h
  unfold isBn isLn
  rw [decide_eq_false (show ¬ c = 9 by omega), decide_eq_false (show ¬ c = 10 by omega), decide_eq_false (show ¬ c = 13 by omega), decide_eq_false (show ¬ c = 32 by omega), decide_eq_false (show ¬ 97 ≤ c by omega), Bool.false_and]
  exact ⟨rfl, rfl⟩
/-- a word -/
theorem Tz.word {L : List Nat} {ts : List (Nat × Nat)} (w : List Nat) (v : Nat) (hw : w ≠ []) (hl : ∀ x ∈ w, isLn x = true) (h8 : w.length ≤ 8) (hv : wl w = v) (hL : Hd isLn L) (h : Tz u e L ts) : Tz u e (w ++ L) ((kwF v 11, v) :: ts) := by
  refine ⟨fun x hx => ?_, fun P hP => ?_⟩
  · rcases List.mem_append.mp hx with hx | hx
    · have := isLn_bd.mp (hl x hx); omega
    · exact h.1 x hx
  obtain ⟨c, r, rfl⟩ : ∃ c r, w = c :: r := by
    cases w with
    | nil => exact absurd rfl hw
    | cons c r => exact ⟨c, r, rfl⟩
  have hc := hl c List.mem_cons_self
  obtain ⟨a1, a2, a3, a4, a5⟩ := At0.here (c := c) (L := r ++ L) hP (ln_not hc).1
  have uc : u (sq u e P) = c := a4.cons.2.1
  have a4 : Sf u e (sq u e P) ((c :: r) ++ L) := a4
  obtain ⟨b1, b2⟩ := a4.app
  have hr := rn_run (P := isLn) hL (c :: r) _ a4 hl
  have hq : tkQ u e (sq u e P) = sq u e P + (c :: r).length := by unfold tkQ; rw [uc, if_pos hc]; exact hr
  have hwm : wM u (sq u e P) (c :: r).length = v := by
    rw [wM_cong (u' := fun i => (c :: r).getD i 0) _ (fun i hi => by rw [b2 i hi, Nat.zero_add])]
    exact hv
  have hK : tkK u e (sq u e P) = kwF v 11 := by
    unfold tkK
    rw [uc, if_pos hc, hq, Nat.add_sub_cancel_left, if_pos h8, hwm]
  have hV : vTk u e P = v := by
    unfold vTk tkV
    rw [uc, if_pos hc, hq, Nat.add_sub_cancel_left, hwm]
  exact ⟨a1, by rw [a5, hK], fun _ => hV, h.2 (P + 1) ⟨a3, _, b1, by rw [← hq]; rfl⟩⟩
/-- a number -/
theorem Tz.num {L : List Nat} {ts : List (Nat × Nat)} (w : List Nat) (v : Nat) (hw : w ≠ []) (hl : ∀ x ∈ w, isDn x = true) (h8 : w.length ≤ 4) (hv : dl w = v) (hL : Hd isDn L) (h : Tz u e L ts) : Tz u e (w ++ L) ((2, v) :: ts) := by
  refine ⟨fun x hx => ?_, fun P hP => ?_⟩
  · rcases List.mem_append.mp hx with hx | hx
    · have := isDn_bd.mp (hl x hx); omega
    · exact h.1 x hx
  obtain ⟨c, r, rfl⟩ : ∃ c r, w = c :: r := by
    cases w with
    | nil => exact absurd rfl hw
    | cons c r => exact ⟨c, r, rfl⟩
  have hc := hl c List.mem_cons_self
  have hc2 := (dn_not hc).2
  have hc3 : ¬ isLn c = true := by rw [hc2]; exact Bool.noConfusion
  obtain ⟨a1, a2, a3, a4, a5⟩ := At0.here (c := c) (L := r ++ L) hP (dn_not hc).1
  have uc : u (sq u e P) = c := a4.cons.2.1
  have a4 : Sf u e (sq u e P) ((c :: r) ++ L) := a4
  obtain ⟨b1, b2⟩ := a4.app
  have hr := rn_run (P := isDn) hL (c :: r) _ a4 hl
  have hq : tkQ u e (sq u e P) = sq u e P + (c :: r).length := by unfold tkQ; rw [uc, if_neg hc3, if_pos hc]; exact hr
  have hwm : dM u (sq u e P) (c :: r).length = v := by
    rw [dM_cong (u' := fun i => (c :: r).getD i 0) _ (fun i hi => by rw [b2 i hi, Nat.zero_add])]
    exact hv
  have hK : tkK u e (sq u e P) = 2 := by
    unfold tkK
    rw [uc, if_neg hc3, if_pos hc, hq, Nat.add_sub_cancel_left, if_pos h8]
  have hV : vTk u e P = v := by
    unfold vTk tkV
    rw [uc, if_neg hc3, hq, Nat.add_sub_cancel_left, hwm]
  exact ⟨a1, by rw [a5, hK], fun _ => hV, h.2 (P + 1) ⟨a3, _, b1, by rw [← hq]; rfl⟩⟩
/-- a sign -/
theorem Tz.sign {L : List Nat} {ts : List (Nat × Nat)} (c k : Nat) (hb : isBn c = false) (hl : isLn c = false) (hd : isDn c = false) (hk : sgk c = k) (h128 : c < 128) (h : Tz u e L ts) : Tz u e (c :: L) ((k, 0) :: ts) := by
  refine ⟨fun x hx => ?_, fun P hP => ?_⟩
  · rcases List.mem_cons.mp hx with rfl | hx
    · exact h128
    · exact h.1 x hx
  obtain ⟨a1, a2, a3, a4, a5⟩ := At0.here hP hb
  obtain ⟨_, uc, b1⟩ := a4.cons
  have h1 : ¬ isLn c = true := by rw [hl]; exact Bool.noConfusion
  have h2 : ¬ isDn c = true := by rw [hd]; exact Bool.noConfusion
  have hq : tkQ u e (sq u e P) = sq u e P + 1 := by unfold tkQ; rw [uc, if_neg h1, if_neg h2]
  have hK : tkK u e (sq u e P) = k := by
    unfold tkK
    rw [uc, if_neg h1, if_neg h2, hk]
  have := sgk_n c
  rw [hk] at this
  exact ⟨a1, by rw [a5, hK], fun z => by omega, h.2 (P + 1) ⟨a3, _, b1, by rw [← hq]; rfl⟩⟩
end TZ
