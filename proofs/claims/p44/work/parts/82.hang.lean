/-! what hangs on a write -/
theorem evA_env {nc : Nat} {e e' : Nat → Int32} {x s o : Int32} (hnc : nc ≤ 6) (h : ∀ c, c < nc → e' c = e c) : ∀ (cs : List (Nat × Int32)) (f : Nat → Int32) (d : Nat), wfC nc cs d → evA (vrE e' x s o) cs f d = evA (vrE e x s o) cs f d := by
  intro cs
  induction cs with
  | nil => intro f d _; rfl
  | cons kv cs ih =>
    obtain ⟨k, v⟩ := kv
    intro f d hw
    have ev : ∀ vr : Int32 → Int32, evA vr ((k, v) :: cs) f d = if k = 0 then evA vr cs (upd f d v) (d + 1) else if k = 1 then evA vr cs (upd f d (vr v)) (d + 1) else if k = 5 ∧ f (d - 1) = 0 then none else evA vr cs (upd f (d - 2) (opv k (f (d - 2)) (f (d - 1)))) (d - 1) := fun vr => rfl
    rw [ev, ev]
    rcases hw with ⟨rfl, _, hw2⟩ | ⟨rfl, _, ⟨j, rfl, hj⟩, hw2⟩ | ⟨hk2, hk5, hd2, hw2⟩
    · rw [if_pos rfl, if_pos rfl]; exact ih _ _ hw2
    · rw [if_neg (show ¬ 1 = 0 by decide), if_neg (show ¬ 1 = 0 by decide), if_pos rfl, if_pos rfl]
      have : vrE e' x s o (nI j) = vrE e x s o (nI j) := by
        rcases hj with hj | ⟨h6, h9⟩
        · rw [vr_cell (by omega), vr_cell (by omega)]; exact h j hj
        · rcases (show j = 6 ∨ j = 7 ∨ j = 8 by omega) with rfl | rfl | rfl
          · rw [vr_6, vr_6]
          · rw [vr_7, vr_7]
          · rw [vr_8, vr_8]
      rw [this]
      exact ih _ _ hw2
    · rw [if_neg (show ¬ k = 0 by omega), if_neg (show ¬ k = 0 by omega), if_neg (show ¬ k = 1 by omega), if_neg (show ¬ k = 1 by omega)]
      by_cases hz : k = 5 ∧ f (d - 1) = 0
      · rw [if_pos hz, if_pos hz]
      · rw [if_neg hz, if_neg hz]; exact ih _ _ hw2
theorem doS_env {T : Td} {g : Gs} {w : Nat} {e e' : Nat → Int32} (hI : TInv T) (hf : gF g w < tF T) (h : ∀ c, c < tC T → e' c = e c) : (doS T g w e').1 = (doS T g w e).1 ∧ (doS T g w e').2.1 = (doS T g w e).2.1 ∧ ∀ c, c < tC T → (doS T g w e').2.2 c = (doS T g w e).2.2 c := by
  obtain ⟨y1, y2, y3, y4⟩ := hI.2.2.2.2.2.2 (gF g w) hf
  have hC6 : tC T ≤ 6 := hI.2.2.2.2.1
  have ep : ∀ p, p < 4 → (p < 3 ∨ tE T (gF g w) ≠ 0) → evP T g w e' p = evP T g w e p := fun p hp hq => evA_env hC6 h _ _ _ (y4 p hp hq)
  have hu : ∀ (k : Nat) (v : Int32) c, c < tC T → upd e' k v c = upd e k v c := fun k v c hc => by
    by_cases q : c = k
    · subst q; rw [pk_us, pk_us]
    · rw [pk_un q, pk_un q]; exact h c hc
  have e0 := ep 0 (by decide) (Or.inl (by decide))
  have e1 := ep 1 (by decide) (Or.inl (by decide))
  have e2 := ep 2 (by decide) (Or.inl (by decide))
  have hdn : ∀ e : Nat → Int32, evP T g w e 0 = none → doS T g w e = (3, 0, e) := fun e z => by
    unfold doS
    rw [z]
  have hdn1 : ∀ (e : Nat → Int32) a, evP T g w e 0 = some a → evP T g w e 1 = none → doS T g w e = (3, 0, e) := fun e a z z1 => by
    unfold doS
    rw [z, z1]
  have hd2 : ∀ (e : Nat → Int32) a b, evP T g w e 0 = some a → evP T g w e 1 = some b → doS T g w e = if (if tL T (gF g w) = 1 then a < b else a = b) then (match evP T g w e 2 with | some v => ((0 : Int32), tT T (gF g w) + 1, upd e (tT T (gF g w)) v) | none => (3, 0, e)) else if tE T (gF g w) = 0 then (2, 0, e) else (match evP T g w e 3 with | some v => (1, tE T (gF g w), upd e (tE T (gF g w) - 1) v) | none => (3, 0, e)) := fun e a b z z1 => by
    unfold doS
    rw [z, z1]
    rfl
  cases h0 : evP T g w e 0 with
  | none =>
    rw [hdn e h0, hdn e' (e0.trans h0)]
    exact ⟨rfl, rfl, h⟩
  | some a =>
    cases h1 : evP T g w e 1 with
    | none =>
      rw [hdn1 e a h0 h1, hdn1 e' a (e0.trans h0) (e1.trans h1)]
      exact ⟨rfl, rfl, h⟩
    | some b =>
      rw [hd2 e a b h0 h1, hd2 e' a b (e0.trans h0) (e1.trans h1), e2]
      by_cases hc : (if tL T (gF g w) = 1 then a < b else a = b)
      · rw [if_pos hc, if_pos hc]
        cases h2 : evP T g w e 2 with
        | none => exact ⟨rfl, rfl, h⟩
        | some v => exact ⟨rfl, rfl, hu _ _⟩
      · rw [if_neg hc, if_neg hc]
        by_cases hE : tE T (gF g w) = 0
        · rw [if_pos hE, if_pos hE]
          exact ⟨rfl, rfl, h⟩
        · rw [if_neg hE, if_neg hE, ep 3 (by decide) (Or.inr hE)]
          cases h3 : evP T g w e 3 with
          | none => exact ⟨rfl, rfl, h⟩
          | some v => exact ⟨rfl, rfl, hu _ _⟩
/-- cells ahead of the place i without the write at p; how many come out otherwise; the first -/
def eH (T : Td) (g : Gs) (f : Nat → Nat) (p : Nat) : Nat → Nat → Int32
  | 0 => tI T
  | i + 1 => if i = p then eH T g f p i else (doS T g (f i) (eH T g f p i)).2.2
def oH (T : Td) (g : Gs) (f : Nat → Nat) (p i : Nat) : Int32 := (doS T g (f i) (eH T g f p i)).1
def cH (T : Td) (g : Gs) (f : Nat → Nat) (p : Nat) : Nat → Nat
  | 0 => 0
  | i + 1 => if p < i ∧ oH T g f p i ≠ outS T g f i then cH T g f p i + 1 else cH T g f p i
def fH (T : Td) (g : Gs) (f : Nat → Nat) (p : Nat) : Nat → Int32
  | 0 => -2
  | i + 1 => if (p < i ∧ oH T g f p i ≠ outS T g f i) ∧ cH T g f p i = 0 then nI (f i) else fH T g f p i
section HG
variable {T : Td} {g : Gs} {f : Nat → Nat} {p : Nat}
theorem eH_le : ∀ i, i ≤ p → eH T g f p i = envS T g f i := by
  intro i
  induction i with
  | zero => intro _; rfl
  | succ i ih =>
    intro hi
    show (if i = p then eH T g f p i else (doS T g (f i) (eH T g f p i)).2.2) = _
    rw [if_neg (by omega), ih (by omega)]
    rfl
theorem eH_p : eH T g f p (p + 1) = envS T g f p := by
  show (if p = p then eH T g f p p else _) = _
  rw [if_pos rfl, eH_le p (Nat.le_refl _)]
theorem cH_0 : ∀ i, i ≤ p + 1 → cH T g f p i = 0 ∧ fH T g f p i = -2 := by
  intro i
  induction i with
  | zero => intro _; exact ⟨rfl, rfl⟩
  | succ i ih =>
    intro hi
    obtain ⟨a, b⟩ := ih (by omega)
    refine ⟨?_, ?_⟩
    · show (if p < i ∧ oH T g f p i ≠ outS T g f i then cH T g f p i + 1 else cH T g f p i) = 0
      rw [if_neg (fun z => absurd z.1 (by omega)), a]
    · show (if (p < i ∧ oH T g f p i ≠ outS T g f i) ∧ cH T g f p i = 0 then nI (f i) else fH T g f p i) = -2
      rw [if_neg (fun z => absurd z.1.1 (by omega)), b]
theorem cH_le : ∀ i, cH T g f p i ≤ i := by
  intro i
  induction i with
  | zero => exact Nat.le_refl _
  | succ i ih =>
    show (if p < i ∧ oH T g f p i ≠ outS T g f i then cH T g f p i + 1 else cH T g f p i) ≤ i + 1
    by_cases h : p < i ∧ oH T g f p i ≠ outS T g f i
    · rw [if_pos h]; omega
    · rw [if_neg h]; omega
theorem fH_c : ∀ i, (∀ j, j < i → f j < 60) → ((cH T g f p i = 0 ∧ fH T g f p i = -2) ∨ (cH T g f p i ≠ 0 ∧ fH T g f p i ≠ -2)) := by
  intro i
  induction i with
  | zero => intro _; exact Or.inl ⟨rfl, rfl⟩
  | succ i ih =>
    intro hf
    have ec : cH T g f p (i + 1) = if p < i ∧ oH T g f p i ≠ outS T g f i then cH T g f p i + 1 else cH T g f p i := rfl
    have ef : fH T g f p (i + 1) = if (p < i ∧ oH T g f p i ≠ outS T g f i) ∧ cH T g f p i = 0 then nI (f i) else fH T g f p i := rfl
    have hi := ih (fun j hj => hf j (by omega))
    rw [ec, ef]
    by_cases h : p < i ∧ oH T g f p i ≠ outS T g f i
    · rw [if_pos h]
      refine Or.inr ⟨by omega, ?_⟩
      by_cases h0 : cH T g f p i = 0
      · rw [if_pos ⟨h, h0⟩]
        have := hf i (by omega)
        exact fun z => nI_n0 (show f i < 2 ^ 31 by omega) (by rw [z]; decide)
      · rw [if_neg (fun z => h0 z.2)]
        exact (hi.resolve_left (fun z => h0 z.1)).2
    · rw [if_neg h, if_neg (fun z => h z.1)]
      exact hi
theorem hang_stop {n : Nat} (hI : TInv T) (hf : ∀ i, i < n → gF g (f i) < tF T) {i : Nat} (hp : p < i) (h : ∀ c, c < tC T → eH T g f p i c = envS T g f i c) : ∀ d, i + d ≤ n → (∀ c, c < tC T → eH T g f p (i + d) c = envS T g f (i + d) c) ∧ cH T g f p (i + d) = cH T g f p i ∧ fH T g f p (i + d) = fH T g f p i := by
  intro d
  induction d with
  | zero => intro _; exact ⟨h, rfl, rfl⟩
  | succ d ih =>
    intro hd
    obtain ⟨a, b, c⟩ := ih (by omega)
    obtain ⟨q1, q2, q3⟩ := doS_env (w := f (i + d)) hI (hf (i + d) (by omega)) a
    have ho : ¬ (p < i + d ∧ oH T g f p (i + d) ≠ outS T g f (i + d)) := fun z => z.2 q1
    refine ⟨fun k hk => ?_, ?_, ?_⟩
    · show (if i + d = p then eH T g f p (i + d) else (doS T g (f (i + d)) (eH T g f p (i + d))).2.2) k = _
      rw [if_neg (by omega)]
      exact q3 k hk
    · show (if p < i + d ∧ oH T g f p (i + d) ≠ outS T g f (i + d) then _ else cH T g f p (i + d)) = _
      rw [if_neg ho, b]
    · show (if (p < i + d ∧ oH T g f p (i + d) ≠ outS T g f (i + d)) ∧ _ then _ else fH T g f p (i + d)) = _
      rw [if_neg (fun z => ho z.1), c]
end HG
theorem c_asAhead {T : Td} {σ : Wd} {q i : Nat} {e1 e2 : Nat → Int32} (hC6 : tC T ≤ 6) (hi : i ≤ 60) (h7 : ∀ c, c < tC T → gI σ (q + 7) c = e1 c) (h6 : ∀ c, c < tC T → gI σ (q + 6) (6 * i + c) = e2 c) : ((∃ c, c < tC T ∧ e1 c ≠ e2 c) ∧ M_X4_isAsAheadOf σ q (nI i) (nI (tC T)) = some 0) ∨ ((∀ c, c < tC T → e1 c = e2 c) ∧ M_X4_isAsAheadOf σ q (nI i) (nI (tC T)) = some 1) := by
  have q0 := al2_loop (body := fun s : Int32 => M_X4_isAsAheadOf_L2 q σ (nI i) (nI (tC T)) s) (n := tC T) (i0 := 0) (C := fun c => decide (e1 c = e2 c)) (by omega) (Nat.zero_le _) (fun k _ hk => by
    show M_X4_isAsAheadOf_L2 q σ (nI i) (nI (tC T)) (nI k) = _
    unfold M_X4_isAsAheadOf_L2
    by_cases h0 : tC T ≤ k
    · rw [if_pos ((nI_leI (by omega) (by omega)).mpr h0), if_pos h0]
    · rw [if_neg (fun z => h0 ((nI_leI (by omega) (by omega)).mp z)), if_neg h0, chk_pos ((ib_nI (by omega)).mpr (by omega)), show nI i * 6 + nI k = nI (6 * i + k) by rw [show (6 : Int32) = nI 6 from rfl, pk_mul, nI_add, Nat.mul_comm], chk_pos ((ib_nI (by omega)).mpr (by omega)), ix_nI (by omega), ix_nI (by omega), h7 k (by omega), h6 k (by omega), nI_1]
      by_cases hc : e1 k = e2 k
      · rw [if_pos hc, if_pos (decide_eq_true hc)]
        rfl
      · rw [if_neg hc, if_neg (fun z => hc (of_decide_eq_true z))])
  unfold M_X4_isAsAheadOf
  rcases q0 with ⟨⟨c, _, hc, hd⟩, e⟩ | ⟨ha, e⟩
  · rw [show iter (fun s : Int32 => M_X4_isAsAheadOf_L2 q σ (nI i) (nI (tC T)) s) FU 0 = some (.inr 0) from e]
    exact Or.inl ⟨⟨c, hc, of_decide_eq_false hd⟩, rfl⟩
  · rw [show iter (fun s : Int32 => M_X4_isAsAheadOf_L2 q σ (nI i) (nI (tC T)) s) FU 0 = some (.inl ()) from e]
    exact Or.inr ⟨fun c hc => of_decide_eq_true (ha c (Nat.zero_le _) hc), rfl⟩
def FW (q : Nat) (σ σ' : Wd) : Prop := σ'.2 = σ.2 ∧ (∀ x, x < q ∨ q + 7 < x ∨ (q + 3 ≤ x ∧ x ≤ q + 6) → σ'.1 x = σ.1 x) ∧ gI σ' q 2 = gI σ q 2
theorem FW.trans {q : Nat} {a b c : Wd} (h : FW q a b) (k : FW q b c) : FW q a c := ⟨k.1.trans h.1, fun x hx => (k.2.1 x hx).trans (h.2.1 x hx), k.2.2.trans h.2.2⟩
theorem FW.kc {q : Nat} {σ σ' : Wd} (hq : 108 ≤ q) (h : FW q σ σ') : KC σ σ' := fun c hc => ⟨h.2.1 c (Or.inl (by have := hc.1; omega)), by rw [show σ'.2.1 = σ.2.1 from congrArg Prod.fst h.1], by rw [show σ'.2.2 = σ.2.2 from congrArg Prod.snd h.1]⟩
theorem FW.pl {T : Td} {g : Gs} {c q : Nat} {σ σ' : Wd} (h : PlC T g c q σ) (k : FW q σ σ') : PlC T g c q σ' := by
  have e : ∀ x j, q + 3 ≤ x → x ≤ q + 6 → gI σ' x j = gI σ x j := fun x j h1 h2 => congrFun (k.2.1 x (Or.inr (Or.inr ⟨h1, h2⟩))) j
  obtain ⟨a, b, d, f⟩ := h
  refine ⟨k.2.2.trans a, fun i hi => by rw [e (q + 3) _ (by omega) (by omega)]; exact b i hi, fun i hi => by rw [e (q + 4) _ (by omega) (by omega), e (q + 5) _ (by omega) (by omega)]; exact d i hi, fun i j hi hj => by rw [e (q + 6) _ (by omega) (by omega)]; exact f i j hi hj⟩
theorem FW.o {q k : Nat} {v : Int32} {σ σ' : Wd} (hk : k ≠ 2) (h : FW q σ σ') : FW q σ (uI σ' q k v) := h.trans ⟨rfl, fun x hx => rI_ne (by omega), by rw [gI_uI, if_neg (by omega)]⟩
theorem c_weigh {T : Td} {t l : Nat} {g : Gs} {σ τ : Wd} (h : Qd T t l g σ τ) {q c p : Nat} (hq : 108 ≤ q) (hc : c < 5) (hp : PlC T g c q σ) (hpn : p < ln g c) : ∃ σ', M_X4_weigh σ q t (nI p) = some σ' ∧ FW q σ σ' ∧ gI σ' q 7 = nI (cH T g (lf g c) p (ln g c)) ∧ gI σ' q 8 = fH T g (lf g c) p (ln g c) := by
  obtain ⟨hW, hO, hP, hn5⟩ := q_bd h
  obtain ⟨ht, h4, hl, h18, hTI, hTC, hTM⟩ := gR_mid h.1
  have hI := h.2.2.2.2.1
  have hC6 : tC T ≤ 6 := hTI.2.2.2.2.1
  have ht19 : t ≤ 19 := by rcases ht with e | e <;> omega
  have lx := ln_facts hI hc
  have hN : ln g c ≤ 60 := Nat.le_trans lx.2.2.1 hW
  have hfF : ∀ i, i < ln g c → gF g (lf g c i) < tF T := fun i hi => (hI.2.2.2.2.2.2.2.2.2.1 _ (lx.1 i hi)).1
  have hf60 : ∀ i, i < ln g c → lf g c i < 60 := fun i hi => Nat.lt_of_lt_of_le (lx.1 i hi) hW
  have w0 : FW q σ (uI (uI σ q 7 0) q 8 (-2)) := FW.o (k := 8) (by decide) (FW.o (k := 7) (by decide) (show FW q σ σ from ⟨rfl, fun _ _ => rfl, rfl⟩))
  have g78 : gI (uI (uI σ q 7 0) q 8 (-2)) q 7 = 0 := by rw [gI_uI, if_neg (by omega), gI_uI, if_pos ⟨rfl, rfl⟩]
  have g8 : gI (uI (uI σ q 7 0) q 8 (-2)) q 8 = -2 := by rw [gI_uI, if_pos ⟨rfl, rfl⟩]
  have hp0 := FW.pl hp w0
  have w1 : FW q σ (rI (uI (uI σ q 7 0) q 8 (-2)) (q + 7) (va_cpy ((uI (uI σ q 7 0) q 8 (-2)).1 (q + 6)) ((uI (uI σ q 7 0) q 8 (-2)).1 (q + 7)) (6 * p) 0 6)) := w0.trans ⟨rfl, fun x hx => rI_ne (by omega), gI_rI_n (by omega)⟩
  -- the loop, from the write behind p on
  have run : ∀ (d i k : Nat) (σi : Wd), i + d = ln g c → p < i → d < k → FW q σ σi → gI σi q 7 = nI (cH T g (lf g c) p i) → gI σi q 8 = fH T g (lf g c) p i → (∀ x, x < tC T → gI σi (q + 7) x = eH T g (lf g c) p i x) → ∃ σ', iter (fun s : Int32 × Wd => M_X4_weigh_L47 q t s.1 s.2) k (nI i, σi) = some σ' ∧ FW q σ σ' ∧ gI σ' q 7 = nI (cH T g (lf g c) p (ln g c)) ∧ gI σ' q 8 = fH T g (lf g c) p (ln g c) := by
    intro d
    induction d with
    | zero =>
      intro i k σi hi hpi hk hF e7 e8 ee
      obtain ⟨m, rfl⟩ : ∃ m, k = m + 1 := ⟨k - 1, by omega⟩
      obtain rfl : i = ln g c := by omega
      refine ⟨σi, it_x ?_, hF, e7, e8⟩
      show M_X4_weigh_L47 q t (nI (ln g c)) σi = _
      unfold M_X4_weigh_L47
      rw [(FW.pl hp hF).1, if_pos ((nI_leI (by omega) (by omega)).mpr (Nat.le_refl _))]
    | succ d ih =>
      intro i k σi hi hpi hk hF e7 e8 ee
      obtain ⟨m, rfl⟩ : ∃ m, k = m + 1 := ⟨k - 1, by omega⟩
      have hpl := FW.pl hp hF
      have hQi := h.kc (hF.kc hq)
      obtain ⟨_, _, _, _, _, hTCi, _⟩ := gR_mid hQi.1
      have hle : ¬ nI (ln g c) ≤ nI i := fun z => by have := (nI_leI (by omega) (by omega)).mp z; omega
      have ci : ib (nI i) 60 := (ib_nI (by omega)).mpr (by omega)
      have xi : ix (nI i) = i := ix_nI (by omega)
      rcases c_asAhead (q := q) (i := i) (e1 := eH T g (lf g c) p i) (e2 := envS T g (lf g c) i) hC6 (by omega) ee (fun x hx => hpl.2.2.2 i x (by omega) hx) with ⟨_, ea⟩ | ⟨hall, ea⟩
      · obtain ⟨σ2, b1, b2, b3, b4, b5, b6⟩ := c_perform hQi (q := q + 1) (a := q + 7) (n := 6) (w := lf g c i) (base := 0) (e := eH T g (lf g c) p i) (by omega) (by omega) (by omega) (by omega) (lx.1 i (by omega)) (by decide) (by decide) (fun x hx => by rw [Nat.zero_add]; exact ee x hx)
        have hF2 : FW q σ σ2 := hF.trans ⟨b2, fun x hx => b3 x (by omega) (by omega) (by omega), congrFun (b3 q (by omega) (by omega) (by omega)) 2⟩
        have c7 : gI σ2 q 7 = nI (cH T g (lf g c) p i) := (congrFun (b3 q (by omega) (by omega) (by omega)) 7).trans e7
        have c8 : gI σ2 q 8 = fH T g (lf g c) p i := (congrFun (b3 q (by omega) (by omega) (by omega)) 8).trans e8
        have hpl2 := FW.pl hp hF2
        have ece : ∀ x, x < tC T → gI σ2 (q + 7) x = eH T g (lf g c) p (i + 1) x := fun x hx => by
          have := b5 x hx
          rw [Nat.zero_add] at this
          rw [this]
          show _ = (if i = p then eH T g (lf g c) p i else (doS T g (lf g c i) (eH T g (lf g c) p i)).2.2) x
          rw [if_neg (by omega)]
        have ec : cH T g (lf g c) p (i + 1) = if p < i ∧ oH T g (lf g c) p i ≠ outS T g (lf g c) i then cH T g (lf g c) p i + 1 else cH T g (lf g c) p i := rfl
        have ef : fH T g (lf g c) p (i + 1) = if (p < i ∧ oH T g (lf g c) p i ≠ outS T g (lf g c) i) ∧ cH T g (lf g c) p i = 0 then nI (lf g c i) else fH T g (lf g c) p i := rfl
        have hfc := fH_c (T := T) (g := g) (f := lf g c) (p := p) i (fun j hj => hf60 j (by omega))
        have st : ∀ r, (if oH T g (lf g c) p i = gI σ2 (q + 4) i then some (.inl (nI (i + 1), σ2)) else (if gI (uI σ2 q 7 (gI σ2 q 7 + 1)) q 8 ≠ (-2 : Int32) then some (.inl (nI (i + 1), uI σ2 q 7 (gI σ2 q 7 + 1))) else some (.inl (nI (i + 1), uI (uI σ2 q 7 (gI σ2 q 7 + 1)) q 8 (gI (uI σ2 q 7 (gI σ2 q 7 + 1)) (q + 3) i))))) = r → M_X4_weigh_L47 q t (nI i) σi = r := fun r hr => by
          unfold M_X4_weigh_L47
          rw [hpl.1, if_neg hle, hTCi.1.2.2.2.1, ea, bnd1_some, if_neg z00, chk_pos ci, xi, hpl.2.1 i (by omega), show M_X0_perform σi (q + 1) t (nI (lf g c i)) (q + 7) 6 0 = some ((doS T g (lf g c i) (eH T g (lf g c) p i)).1, σ2) from b1, bnd2_some, chk_pos ci, lt_eq, lt_eq, chk_pos ci, lt_eq, lt_eq, lt_eq, nI_1]
          exact hr
        rw [(hpl2.2.2.1 i (by omega)).1] at st
        by_cases ho : oH T g (lf g c) p i = outS T g (lf g c) i
        · have st1 := st _ rfl
          rw [if_pos ho] at st1
          obtain ⟨σ', z1, z2⟩ := ih (i + 1) m σ2 (by omega) (by omega) (by omega) hF2 (by rw [ec, if_neg (fun z => z.2 ho)]; exact c7) (by rw [ef, if_neg (fun z => z.1.2 ho)]; exact c8) ece
          exact ⟨σ', (it_s st1).trans z1, z2⟩
        · have st1 := st _ rfl
          rw [if_neg ho, c7, nI_1, show gI (uI σ2 q 7 (nI (cH T g (lf g c) p i + 1))) q 8 = fH T g (lf g c) p i from by rw [gI_uI, if_neg (by omega)]; exact c8, show gI (uI σ2 q 7 (nI (cH T g (lf g c) p i + 1))) (q + 3) i = nI (lf g c i) from by rw [gI_uI, if_neg (by omega)]; exact hpl2.2.1 i (by omega)] at st1
          rcases hfc with ⟨f0, f2⟩ | ⟨f0, f2⟩
          · rw [f2, if_neg (fun z => z rfl)] at st1
            obtain ⟨σ', z1, z2⟩ := ih (i + 1) m _ (by omega) (by omega) (by omega) ((hF2.o (k := 7) (v := nI (cH T g (lf g c) p i + 1)) (by decide)).o (k := 8) (v := nI (lf g c i)) (by decide)) (by rw [gI_uI, if_neg (by omega), gI_uI, if_pos ⟨rfl, rfl⟩, ec, if_pos ⟨hpi, ho⟩]) (by rw [gI_uI, if_pos ⟨rfl, rfl⟩, ef, if_pos ⟨⟨hpi, ho⟩, f0⟩]) (fun x hx => by rw [gI_uI, if_neg (by omega), gI_uI, if_neg (by omega)]; exact ece x hx)
            exact ⟨σ', (it_s st1).trans z1, z2⟩
          · rw [if_pos f2] at st1
            obtain ⟨σ', z1, z2⟩ := ih (i + 1) m _ (by omega) (by omega) (by omega) (hF2.o (k := 7) (v := nI (cH T g (lf g c) p i + 1)) (by decide)) (by rw [gI_uI, if_pos ⟨rfl, rfl⟩, ec, if_pos ⟨hpi, ho⟩]) (by rw [gI_uI, if_neg (by omega), ef, if_neg (fun z => f0 z.2)]; exact c8) (fun x hx => by rw [gI_uI, if_neg (by omega)]; exact ece x hx)
            exact ⟨σ', (it_s st1).trans z1, z2⟩
      · obtain ⟨_, s2, s3⟩ := hang_stop hTI hfF hpi hall (d + 1) (by omega)
        rw [hi] at s2 s3
        refine ⟨σi, it_x ?_, hF, by rw [s2]; exact e7, by rw [s3]; exact e8⟩
        show M_X4_weigh_L47 q t (nI i) σi = _
        unfold M_X4_weigh_L47
        rw [hpl.1, if_neg hle, hTCi.1.2.2.2.1, ea, bnd1_some, if_pos n01]
  obtain ⟨c0, f0⟩ := cH_0 (T := T) (g := g) (f := lf g c) (p := p) (p + 1) (Nat.le_refl _)
  obtain ⟨σ', z1, z2, z3⟩ := run (ln g c - (p + 1)) (p + 1) FU _ (by omega) (by omega) (FU_big (by omega)) w1 (by rw [gI_rI_n (by omega), g78, c0]; rfl) (by rw [gI_rI_n (by omega), g8, f0]) (fun x hx => by
    rw [gI_rI_s, pk_cpy_in (by omega) (by omega), Nat.sub_zero, eH_p]
    exact hp0.2.2.2 p x (by omega) hx)
  refine ⟨σ', ?_, z2, z3⟩
  have v6 : nI p * 6 = nI (6 * p) := by rw [show (6 : Int32) = nI 6 from rfl, pk_mul, Nat.mul_comm]
  unfold M_X4_weigh
  rw [lt_eq, lt_eq, if_neg (nI_n0 (by omega)), hp0.1, if_pos ((nI_ltI (by omega) (by omega)).mpr hpn), v6, chk_pos (by
    rw [ix_nI (show 6 * p < 2 ^ 31 by omega), show ix (6 : Int32) = 6 from rfl, show ix (0 : Int32) = 0 from rfl]
    exact ⟨nI_n0 (by omega), by decide, by decide, by omega, by omega⟩), ix_nI (show 6 * p < 2 ^ 31 by omega), show ix (6 : Int32) = 6 from rfl, show ix (0 : Int32) = 0 from rfl, lt_eq, lt_eq, nI_1, z1, bnd1_some]
  rfl
