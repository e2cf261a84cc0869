/-! what an expression tells: the class's stack -/
def opv (k : Nat) (a b : Int32) : Int32 := if k = 2 then a + b else if k = 3 then a - b else if k = 4 then a * b else a / b
def vrE (e : Nat → Int32) (x s o v : Int32) : Int32 := if v = 6 then x else if v = 7 then s else if v = 8 then o else e v.toNatClampNeg
def evA (vr : Int32 → Int32) : List (Nat × Int32) → (Nat → Int32) → Nat → Option Int32
  | [], f, _ => some (f 0)
  | (k, v) :: cs, f, d => if k = 0 then evA vr cs (upd f d v) (d + 1) else if k = 1 then evA vr cs (upd f d (vr v)) (d + 1) else if k = 5 ∧ f (d - 1) = 0 then none else evA vr cs (upd f (d - 2) (opv k (f (d - 2)) (f (d - 1)))) (d - 1)
/-- what the class keeps while it reckons -/
def Fr (q : Nat) (σ σ' : Wd) : Prop := σ'.2 = σ.2 ∧ (∀ c, c ≠ q → c ≠ q + 1 → σ'.1 c = σ.1 c) ∧ (∀ k, k ≠ 1 → k ≠ 2 → gI σ' q k = gI σ q k)
theorem Fr.refl {q : Nat} {σ : Wd} : Fr q σ σ := ⟨rfl, fun _ _ _ => rfl, fun _ _ _ => rfl⟩
theorem Fr.trans {q : Nat} {a b c : Wd} (h : Fr q a b) (k : Fr q b c) : Fr q a c := ⟨k.1.trans h.1, fun x h1 h2 => (k.2.1 x h1 h2).trans (h.2.1 x h1 h2), fun x h1 h2 => (k.2.2 x h1 h2).trans (h.2.2 x h1 h2)⟩
theorem Fr.s {q k : Nat} {v : Int32} {σ σ' : Wd} (h : Fr q σ σ') : Fr q σ (uI σ' (q + 1) k v) := h.trans ⟨rfl, fun c _ h2 => rI_ne h2, fun j _ _ => by rw [gI_uI, if_neg (by omega)]⟩
theorem Fr.t {q k : Nat} {v : Int32} {σ σ' : Wd} (hk : k = 1 ∨ k = 2) (h : Fr q σ σ') : Fr q σ (uI σ' q k v) := h.trans ⟨rfl, fun c h1 _ => rI_ne h1, fun j h1 h2 => by rw [gI_uI, if_neg (by omega)]⟩
theorem Fr.g {q c k : Nat} {σ σ' : Wd} (h : Fr q σ σ') (h1 : c ≠ q) (h2 : c ≠ q + 1) : gI σ' c k = gI σ c k := congrFun (h.2.1 c h1 h2) k
theorem c_push {σ : Wd} {q d : Nat} {v : Int32} (h1 : gI σ q 1 = nI d) (hd : d < 32) : M_X0_push σ q v = some (uI (uI σ (q + 1) d v) q 1 (nI (d + 1))) := by
  unfold M_X0_push
  rw [h1, if_neg (show ¬ (32 : Int32) ≤ nI d from fun z => by have := (nI_leI (a := 32) (by decide) (by omega)).mp z; omega), chk_pos ((ib_nI (by omega)).mpr hd), ix_nI (by omega)]
  simp only [lt_eq]
  rw [show gI (uI σ (q + 1) d v) q 1 = nI d from by rw [gI_uI, if_neg (by omega)]; exact h1, nI_1]
theorem c_operate {σ : Wd} {q d k : Nat} {v : Int32} (h1 : gI σ q 1 = nI d) (h2 : 2 ≤ d) (hd : d ≤ 32) (hk2 : 2 ≤ k) (hk : k ≤ 5) : M_X0_operate σ q (ckd k v).2 = some (if k = 5 ∧ gI σ (q + 1) (d - 1) = 0 then uI (uI σ q 1 (nI (d - 1))) q 2 1 else uI (uI σ q 1 (nI (d - 1))) (q + 1) (d - 2) (opv k (gI σ (q + 1) (d - 2)) (gI σ (q + 1) (d - 1)))) := by
  have hc : (ckd k v).2 = if k = 2 then 43 else if k = 3 then 45 else if k = 4 then 42 else 47 := by
    unfold ckd
    rw [if_neg (by omega), if_neg (by omega)]
  have e1 : gI (uI σ q 1 (nI (d - 1))) q 1 = nI (d - 1) := by rw [gI_uI, if_pos ⟨rfl, rfl⟩]
  have e2 : ∀ j, gI (uI σ q 1 (nI (d - 1))) (q + 1) j = gI σ (q + 1) j := fun j => by rw [gI_uI, if_neg (by omega)]
  rw [hc]
  unfold M_X0_operate
  rw [h1, if_pos (show (2 : Int32) ≤ nI d from (nI_leI (a := 2) (by decide) (by omega)).mpr h2), nI_pred1 (by omega)]
  simp only [lt_eq]
  rw [e1, nI_pred1 (by omega), show d - 1 - 1 = d - 2 by omega, chk_pos ((ib_nI (by omega)).mpr (by omega)), chk_pos ((ib_nI (by omega)).mpr (by omega)), ix_nI (show d - 1 < 2 ^ 31 by omega), ix_nI (show d - 2 < 2 ^ 31 by omega), e2, e2]
  have c0 : ∀ {α : Type} (z : Option α), chk (ib (nI (d - 2)) 32) z = z := fun z => chk_pos ((ib_nI (by omega)).mpr (by omega))
  simp only [c0]
  unfold opv
  rcases (show k = 2 ∨ k = 3 ∨ k = 4 ∨ k = 5 by omega) with rfl | rfl | rfl | rfl
  · rw [if_pos rfl, if_neg (show ¬ (43 : Int32) ≠ 43 by decide), if_neg (fun z => absurd z.1 (by decide)), if_pos rfl]
  · rw [if_neg (show ¬ 3 = 2 by decide), if_pos rfl, if_pos (show (45 : Int32) ≠ 43 by decide), if_neg (show ¬ (45 : Int32) ≠ 45 by decide), if_neg (fun z => absurd z.1 (by decide)), if_neg (show ¬ 3 = 2 by decide), if_pos rfl]
  · rw [if_neg (show ¬ 4 = 2 by decide), if_neg (show ¬ 4 = 3 by decide), if_pos rfl, if_pos (show (42 : Int32) ≠ 43 by decide), if_pos (show (42 : Int32) ≠ 45 by decide), if_neg (show ¬ (42 : Int32) ≠ 42 by decide), if_neg (fun z => absurd z.1 (by decide)), if_neg (show ¬ 4 = 2 by decide), if_neg (show ¬ 4 = 3 by decide), if_pos rfl]
  · rw [if_neg (show ¬ 5 = 2 by decide), if_neg (show ¬ 5 = 3 by decide), if_neg (show ¬ 5 = 4 by decide), if_pos (show (47 : Int32) ≠ 43 by decide), if_pos (show (47 : Int32) ≠ 45 by decide), if_pos (show (47 : Int32) ≠ 42 by decide)]
    by_cases hB : gI σ (q + 1) (d - 1) = 0
    · rw [if_neg (fun z => z hB), if_pos ⟨rfl, hB⟩]
    · rw [if_pos hB, chk_pos hB, if_neg (fun z => hB z.2), if_neg (show ¬ 5 = 2 by decide), if_neg (show ¬ 5 = 3 by decide), if_neg (show ¬ 5 = 4 by decide)]
theorem CC_tl {k : Nat} {v : Int32} {cs : List (Nat × Int32)} {a : Nat} {ks vs : Nat → Int32} (h : CC ((k, v) :: cs) a ks vs) : ks a = (ckd k v).1 ∧ (k ≠ 1 ∨ v < 6 → vs a = (ckd k v).2) ∧ CC cs (a + 1) ks vs := by
  have h0 := h 0 (Nat.succ_pos _)
  refine ⟨h0.1, h0.2, fun i hi => ?_⟩
  have := h (i + 1) (Nat.succ_lt_succ hi)
  rw [show a + (i + 1) = a + 1 + i by omega] at this
  exact this
theorem vr_cell {e : Nat → Int32} {x s o : Int32} {j : Nat} (h : j < 6) : vrE e x s o (nI j) = e j := by
  unfold vrE
  rw [if_neg (fun z => by have := (nI_eq (b := 6) (by omega) (by decide)).mp z; omega), if_neg (fun z => by have := (nI_eq (b := 7) (by omega) (by decide)).mp z; omega), if_neg (fun z => by have := (nI_eq (b := 8) (by omega) (by decide)).mp z; omega), nI_clamp (by omega)]
theorem c_run {q t a n p w base nc : Nat} {σ0 : Wd} {e : Nat → Int32} {x s o : Int32} (hq : 100 < q) (ht : t ≤ 19) (ha : a ≠ q) (ha1 : a ≠ q + 1) (hp : p < 24) (hw : w < 60) (hnc : nc ≤ 6) (hb : base + 6 ≤ n) (hn : n < 1000) (hx : gI σ0 31 w = x) (hs : gI σ0 33 w = s) (ho : gI σ0 32 w = o) (he : ∀ c, c < nc → gI σ0 a (base + c) = e c) {E : Nat} (hE : gI σ0 (t + 6) p = nI E) (hE4 : E ≤ 400) : ∀ (cs : List (Nat × Int32)) (i d : Nat) (f : Nat → Int32) (σ : Wd) (fu : Nat), i + cs.length = E → CC cs i (gI σ0 (t + 7)) (gI σ0 (t + 8)) → wfC nc cs d → d ≤ 32 → Fr q σ0 σ → gI σ q 1 = nI d → gI σ q 2 = 0 → (∀ j, j < d → gI σ (q + 1) j = f j) → cs.length < fu → ∃ σ', iter (fun z : Int32 × Wd => M_X0_worth_L13 q t a n (nI p) (nI w) (nI base) z.1 z.2) fu (nI i, σ) = some σ' ∧ Fr q σ0 σ' ∧ ((∃ r, evA (vrE e x s o) cs f d = some r ∧ gI σ' q 1 = nI 1 ∧ gI σ' (q + 1) 0 = r ∧ gI σ' q 2 = 0) ∨ (evA (vrE e x s o) cs f d = none ∧ gI σ' q 2 = 1 ∧ ∃ d', d' ≤ 32 ∧ gI σ' q 1 = nI d')) := by
  intro cs
  induction cs with
  | nil =>
    intro i d f σ fu hi hC hwf hd hF h1 h2 hf hfu
    obtain ⟨m, rfl⟩ : ∃ m, fu = m + 1 := ⟨fu - 1, by omega⟩
    have hd1 : d = 1 := hwf
    subst hd1
    have hi : i = E := hi
    refine ⟨σ, it_x ?_, hF, Or.inl ⟨f 0, rfl, h1, hf 0 (by omega), h2⟩⟩
    show M_X0_worth_L13 q t a n (nI p) (nI w) (nI base) (nI i) σ = _
    unfold M_X0_worth_L13
    rw [chk_pos ((ib_nI (by omega)).mpr hp), ix_nI (by omega), hF.g (by omega) (by omega), hE, hi, if_pos ((nI_leI (by omega) (by omega)).mpr (Nat.le_refl _))]
  | cons kv cs ih =>
    obtain ⟨k, v⟩ := kv
    intro i d f σ fu hi hC hwf hd hF h1 h2 hf hfu
    obtain ⟨m, rfl⟩ : ∃ m, fu = m + 1 := ⟨fu - 1, by omega⟩
    have hi : i + (cs.length + 1) = E := hi
    have hfu : cs.length + 1 < m + 1 := hfu
    obtain ⟨k1, k2, k3⟩ := CC_tl hC
    have kK : gI σ (t + 7) i = (ckd k v).1 := (hF.g (by omega) (by omega)).trans k1
    have kV : k ≠ 1 ∨ v < 6 → gI σ (t + 8) i = (ckd k v).2 := fun z => (hF.g (by omega) (by omega)).trans (k2 z)
    have ev : evA (vrE e x s o) ((k, v) :: cs) f d = if k = 0 then evA (vrE e x s o) cs (upd f d v) (d + 1) else if k = 1 then evA (vrE e x s o) cs (upd f d (vrE e x s o v)) (d + 1) else if k = 5 ∧ f (d - 1) = 0 then none else evA (vrE e x s o) cs (upd f (d - 2) (opv k (f (d - 2)) (f (d - 1)))) (d - 1) := rfl
    have body : ∀ r, (chk (ib (nI i) 400) (if gI σ (t + 7) i = (0 : Int32) then (bnd1 (M_X0_push σ q (gI σ (t + 8) i)) fun s_83 => lt (nI i + (1 : Int32)) fun v7_152 => some (.inl (v7_152, s_83))) else (if gI σ (t + 7) i = (1 : Int32) then (chk (ib (nI base + gI σ (t + 8) i) n) (bnd1 (M_X0_push σ q (gI σ a (ix (nI base + gI σ (t + 8) i)))) fun s_98 => lt (nI i + (1 : Int32)) fun v7_152 => some (.inl (v7_152, s_98)))) else (if gI σ (t + 7) i = (2 : Int32) then (chk (ib (nI w) 60) (bnd1 (M_X0_push σ q (gI σ 31 w)) fun s_112 => lt (nI i + (1 : Int32)) fun v7_152 => some (.inl (v7_152, s_112)))) else (if gI σ (t + 7) i = (3 : Int32) then (chk (ib (nI w) 60) (bnd1 (M_X0_push σ q (gI σ 33 w)) fun s_126 => lt (nI i + (1 : Int32)) fun v7_152 => some (.inl (v7_152, s_126)))) else (if gI σ (t + 7) i = (4 : Int32) then (chk (ib (nI w) 60) (bnd1 (M_X0_push σ q (gI σ 32 w)) fun s_140 => lt (nI i + (1 : Int32)) fun v7_152 => some (.inl (v7_152, s_140)))) else (bnd1 (M_X0_operate σ q (gI σ (t + 8) i)) fun s_149 => lt (nI i + (1 : Int32)) fun v7_152 => some (.inl (v7_152, s_149))))))))) = r → M_X0_worth_L13 q t a n (nI p) (nI w) (nI base) (nI i) σ = r := fun r hr => by
      unfold M_X0_worth_L13
      rw [chk_pos ((ib_nI (by omega)).mpr hp), ix_nI (show p < 2 ^ 31 by omega), hF.g (c := t + 6) (by omega) (by omega), hE, if_neg (fun z => by have := (nI_leI (by omega) (by omega)).mp z; omega), if_neg (fun z => z h2), chk_pos ((ib_nI (by omega)).mpr (by omega)), ix_nI (show i < 2 ^ 31 by omega), ix_nI (show w < 2 ^ 31 by omega)]
      exact hr
    have push : ∀ u, d < 32 → (∀ u', M_X0_push σ q u = some u' → M_X0_worth_L13 q t a n (nI p) (nI w) (nI base) (nI i) σ = some (.inl (nI (i + 1), u'))) → wfC nc cs (d + 1) → ∃ σ', iter (fun z : Int32 × Wd => M_X0_worth_L13 q t a n (nI p) (nI w) (nI base) z.1 z.2) (m + 1) (nI i, σ) = some σ' ∧ Fr q σ0 σ' ∧ ((∃ r, evA (vrE e x s o) cs (upd f d u) (d + 1) = some r ∧ gI σ' q 1 = nI 1 ∧ gI σ' (q + 1) 0 = r ∧ gI σ' q 2 = 0) ∨ (evA (vrE e x s o) cs (upd f d u) (d + 1) = none ∧ gI σ' q 2 = 1 ∧ ∃ d', d' ≤ 32 ∧ gI σ' q 1 = nI d')) := fun u hdl hst hw2 => by
      have e1 := c_push (v := u) h1 hdl
      obtain ⟨σ', z1, z2, z3⟩ := ih (i + 1) (d + 1) (upd f d u) (uI (uI σ (q + 1) d u) q 1 (nI (d + 1))) m (by omega) k3 hw2 (by omega) ((hF.s).t (Or.inl rfl)) (by rw [gI_uI, if_pos ⟨rfl, rfl⟩]) (by rw [gI_uI, if_neg (by omega), gI_uI, if_neg (by omega)]; exact h2) (fun j hj => by
        rw [gI_uI, if_neg (by omega), gI_uI]
        by_cases hjd : j = d
        · subst hjd; rw [if_pos ⟨rfl, rfl⟩, pk_us]
        · rw [if_neg (fun z => hjd z.2), pk_un hjd]; exact hf j (by omega)) (by omega)
      exact ⟨σ', (it_s (hst _ e1)).trans z1, z2, z3⟩
    rcases hwf with ⟨rfl, hdl, hw2⟩ | ⟨rfl, hdl, ⟨j, rfl, hj⟩, hw2⟩ | ⟨hk2, hk5, hd2, hw2⟩
    · rw [ev, if_pos rfl]
      refine push v hdl (fun u' hu => body _ ?_) hw2
      rw [chk_pos ((ib_nI (by omega)).mpr (by omega)), kK, show (ckd 0 v).1 = 0 from rfl, if_pos rfl, kV (Or.inl (by decide)), show (ckd 0 v).2 = v from rfl, hu, bnd1_some, nI_1]
      rfl
    · rw [ev, if_neg (show ¬ 1 = 0 by decide), if_pos rfl]
      rcases hj with hj | ⟨hj6, hj9⟩
      · have hj6 : j < 6 := by omega
        have cj : ckd 1 (nI j) = (1, nI j) := by
          unfold ckd
          rw [if_neg (by decide), if_pos rfl, if_neg (fun z => by have := (nI_eq (b := 6) (by omega) (by decide)).mp z; omega), if_neg (fun z => by have := (nI_eq (b := 7) (by omega) (by decide)).mp z; omega), if_neg (fun z => by have := (nI_eq (b := 8) (by omega) (by decide)).mp z; omega)]
        have hv6 : nI j < 6 := (nI_ltI (b := 6) (by omega) (by decide)).mpr hj6
        refine push _ hdl (fun u' hu => body _ ?_) hw2
        rw [chk_pos ((ib_nI (by omega)).mpr (by omega)), kK, kV (Or.inr hv6), cj, if_neg n10, if_pos rfl, nI_add, chk_pos ((ib_nI (by omega)).mpr (by omega)), ix_nI (by omega), hF.g ha ha1, he j hj, ← vr_cell (e := e) (x := x) (s := s) (o := o) hj6, hu, bnd1_some, nI_1]
        rfl
      · rcases (show j = 6 ∨ j = 7 ∨ j = 8 by omega) with rfl | rfl | rfl
        · refine push _ hdl (fun u' hu => body _ ?_) hw2
          rw [chk_pos ((ib_nI (by omega)).mpr (by omega)), kK, show (ckd 1 (nI 6)).1 = 2 from rfl, if_neg (by decide), if_neg (by decide), if_pos rfl, chk_pos ((ib_nI (by omega)).mpr hw), hF.g (by omega) (by omega), hx, show x = vrE e x s o (nI 6) from rfl, hu, bnd1_some, nI_1]
          rfl
        · refine push _ hdl (fun u' hu => body _ ?_) hw2
          rw [chk_pos ((ib_nI (by omega)).mpr (by omega)), kK, show (ckd 1 (nI 7)).1 = 3 from rfl, if_neg (by decide), if_neg (by decide), if_neg (by decide), if_pos rfl, chk_pos ((ib_nI (by omega)).mpr hw), hF.g (by omega) (by omega), hs, show s = vrE e x s o (nI 7) from rfl, hu, bnd1_some, nI_1]
          rfl
        · refine push _ hdl (fun u' hu => body _ ?_) hw2
          rw [chk_pos ((ib_nI (by omega)).mpr (by omega)), kK, show (ckd 1 (nI 8)).1 = 4 from rfl, if_neg (by decide), if_neg (by decide), if_neg (by decide), if_neg (by decide), if_pos rfl, chk_pos ((ib_nI (by omega)).mpr hw), hF.g (by omega) (by omega), ho, show o = vrE e x s o (nI 8) from rfl, hu, bnd1_some, nI_1]
          rfl
    · have e1 := c_operate (v := v) h1 hd2 hd hk2 hk5
      have ck5 : (ckd k v).1 = 5 := by
        unfold ckd
        rw [if_neg (by omega), if_neg (by omega)]
      have st : M_X0_worth_L13 q t a n (nI p) (nI w) (nI base) (nI i) σ = some (.inl (nI (i + 1), if k = 5 ∧ gI σ (q + 1) (d - 1) = 0 then uI (uI σ q 1 (nI (d - 1))) q 2 1 else uI (uI σ q 1 (nI (d - 1))) (q + 1) (d - 2) (opv k (gI σ (q + 1) (d - 2)) (gI σ (q + 1) (d - 1))))) := body _ (by
        rw [chk_pos ((ib_nI (by omega)).mpr (by omega)), kK, ck5, if_neg (by decide), if_neg (by decide), if_neg (by decide), if_neg (by decide), if_neg (by decide), kV (Or.inl (by omega)), e1, bnd1_some, nI_1]
        rfl)
      rw [hf (d - 1) (by omega), hf (d - 2) (by omega)] at st
      rw [ev, if_neg (show ¬ k = 0 by omega), if_neg (show ¬ k = 1 by omega)]
      by_cases hz : k = 5 ∧ f (d - 1) = 0
      · rw [if_pos hz] at st ⊢
        -- stuck: one more look and out
        obtain ⟨m2, rfl⟩ : ∃ m2, m = m2 + 1 := ⟨m - 1, by omega⟩
        have hF2 : Fr q σ0 (uI (uI σ q 1 (nI (d - 1))) q 2 1) := (hF.t (Or.inl rfl)).t (Or.inr rfl)
        have g2 : gI (uI (uI σ q 1 (nI (d - 1))) q 2 1) q 2 = 1 := by rw [gI_uI, if_pos ⟨rfl, rfl⟩]
        refine ⟨uI (uI σ q 1 (nI (d - 1))) q 2 1, (it_s st).trans (it_x ?_), hF2, Or.inr ⟨rfl, g2, d - 1, by omega, by rw [gI_uI, if_neg (by omega), gI_uI, if_pos ⟨rfl, rfl⟩]⟩⟩
        show M_X0_worth_L13 q t a n (nI p) (nI w) (nI base) (nI (i + 1)) _ = _
        unfold M_X0_worth_L13
        rw [chk_pos ((ib_nI (by omega)).mpr hp), ix_nI (show p < 2 ^ 31 by omega), hF2.g (c := t + 6) (by omega) (by omega), hE, g2]
        by_cases hle : nI E ≤ nI (i + 1)
        · rw [if_pos hle]
        · rw [if_neg hle, if_pos n01]
      · rw [if_neg hz] at st ⊢
        obtain ⟨σ', z1, z2, z3⟩ := ih (i + 1) (d - 1) (upd f (d - 2) (opv k (f (d - 2)) (f (d - 1)))) (uI (uI σ q 1 (nI (d - 1))) (q + 1) (d - 2) (opv k (f (d - 2)) (f (d - 1)))) m (by omega) k3 hw2 (by omega) ((hF.t (Or.inl rfl)).s) (by rw [gI_uI, if_neg (by omega), gI_uI, if_pos ⟨rfl, rfl⟩]) (by rw [gI_uI, if_neg (by omega), gI_uI, if_neg (by omega)]; exact h2) (fun j hj => by
          rw [gI_uI]
          by_cases hjd : j = d - 2
          · subst hjd; rw [if_pos ⟨rfl, rfl⟩, pk_us]
          · rw [if_neg (fun z => hjd z.2), pk_un hjd, gI_uI, if_neg (by omega)]; exact hf j (by omega)) (by omega)
        exact ⟨σ', (it_s st).trans z1, z2, z3⟩
/-- a part reckoned by the class -/
theorem c_worth {q t a n p w base nc A0 : Nat} {σ : Wd} {e : Nat → Int32} {cs : List (Nat × Int32)} (hq : 100 < q) (ht : t ≤ 19) (ha : a ≠ q) (ha1 : a ≠ q + 1) (hp : p < 24) (hw : w < 60) (hnc : nc ≤ 6) (hb : base + 6 ≤ n) (hn : n < 1000) (he : ∀ c, c < nc → gI σ a (base + c) = e c) (h5 : gI σ (t + 5) p = nI A0) (h6 : gI σ (t + 6) p = nI (A0 + cs.length)) (h4 : A0 + cs.length ≤ 400) (hC : CC cs A0 (gI σ (t + 7)) (gI σ (t + 8))) (hwf : wfC nc cs 0) (h2 : gI σ q 2 = 0) : ∃ r σ', M_X0_worth σ q t (nI p) (nI w) a n (nI base) = some (r, σ') ∧ Fr q σ σ' ∧ ((evA (vrE e (gI σ 31 w) (gI σ 33 w) (gI σ 32 w)) cs (fun _ => 0) 0 = some r ∧ gI σ' q 2 = 0) ∨ (evA (vrE e (gI σ 31 w) (gI σ 33 w) (gI σ 32 w)) cs (fun _ => 0) 0 = none ∧ gI σ' q 2 = 1)) := by
  have hF : Fr q σ (uI σ q 1 (nI 0)) := Fr.refl.t (Or.inl rfl)
  obtain ⟨σ', z1, z2, z3⟩ := c_run (x := gI σ 31 w) (s := gI σ 33 w) (o := gI σ 32 w) (n := n) hq ht ha ha1 hp hw hnc hb hn rfl rfl rfl he h6 h4 cs A0 0 (fun _ => 0) (uI σ q 1 (nI 0)) FU rfl hC hwf (by omega) hF (by rw [gI_uI, if_pos ⟨rfl, rfl⟩]) (by rw [gI_uI, if_neg (by omega)]; exact h2) (fun j hj => absurd hj (by omega)) (FU_big (by omega))
  have e0 : M_X0_worth σ q t (nI p) (nI w) a n (nI base) = M_X0_worth_J158 q t a n σ' := by
    unfold M_X0_worth
    simp only [lt_eq]
    rw [chk_pos ((ib_nI (by omega)).mpr hp), ix_nI (show p < 2 ^ 31 by omega), show gI (uI σ q 1 0) (t + 5) p = nI A0 from (hF.g (by omega) (by omega)).trans h5, show (0 : Int32) = nI 0 from rfl, z1]
    rfl
  rw [e0]
  unfold M_X0_worth_J158
  rcases z3 with ⟨r, y1, y2, y3, y4⟩ | ⟨y1, y2, d', y3, y4⟩
  · rw [y2, if_neg (by decide), nI_pred1 (by decide), chk_pos (by decide)]
    refine ⟨r, σ', ?_, z2, Or.inl ⟨y1, y4⟩⟩
    rw [show ix (nI (1 - 1)) = 0 from rfl, y3]
  · rw [y4]
    by_cases h0 : d' = 0
    · subst h0
      rw [if_pos (by decide)]
      exact ⟨_, σ', rfl, z2, Or.inr ⟨y1, y2⟩⟩
    · rw [if_neg (fun z : nI d' ≤ 0 => by have := (nI_leI (b := 0) (by omega) (by decide)).mp z; omega), nI_pred1 (by omega), chk_pos ((ib_nI (by omega)).mpr (by omega))]
      exact ⟨_, σ', rfl, z2, Or.inr ⟨y1, y2⟩⟩
/-- once stuck, nothing more is reckoned -/
theorem c_worthS {q t a n p w base A0 E : Nat} {σ : Wd} (hq : 100 < q) (ht : t ≤ 19) (hp : p < 24) (h5 : gI σ (t + 5) p = nI A0) (h6 : gI σ (t + 6) p = nI E) (hE : E ≤ 400) (hA : A0 ≤ 400) (h2 : gI σ q 2 = 1) : ∃ r σ', M_X0_worth σ q t (nI p) (nI w) a n (nI base) = some (r, σ') ∧ Fr q σ σ' ∧ gI σ' q 2 = 1 := by
  have hF : Fr q σ (uI σ q 1 (nI 0)) := Fr.refl.t (Or.inl rfl)
  have g2 : gI (uI σ q 1 (nI 0)) q 2 = 1 := by rw [gI_uI, if_neg (by omega)]; exact h2
  obtain ⟨mm, hm⟩ : ∃ mm, FU = mm + 1 := ⟨999999, by unfold FU; omega⟩
  have st : M_X0_worth_L13 q t a n (nI p) (nI w) (nI base) (nI A0) (uI σ q 1 (nI 0)) = some (.inr (uI σ q 1 (nI 0))) := by
    unfold M_X0_worth_L13
    rw [chk_pos ((ib_nI (by omega)).mpr hp), ix_nI (show p < 2 ^ 31 by omega), hF.g (c := t + 6) (by omega) (by omega), h6, g2]
    by_cases hle : nI E ≤ nI A0
    · rw [if_pos hle]
    · rw [if_neg hle, if_pos n01]
  refine ⟨0, uI σ q 1 (nI 0), ?_, hF, g2⟩
  unfold M_X0_worth
  simp only [lt_eq]
  rw [chk_pos ((ib_nI (by omega)).mpr hp), ix_nI (show p < 2 ^ 31 by omega), show gI (uI σ q 1 0) (t + 5) p = nI A0 from (hF.g (by omega) (by omega)).trans h5, show (0 : Int32) = nI 0 from rfl, hm, it_x (x := uI σ q 1 (nI 0)) (by exact st), bnd1_some]
  show M_X0_worth_J158 q t a n (uI σ q 1 (nI 0)) = _
  unfold M_X0_worth_J158
  rw [show gI (uI σ q 1 (nI 0)) q 1 = nI 0 from by rw [gI_uI, if_pos ⟨rfl, rfl⟩], if_pos (show nI 0 ≤ 0 by decide)]
  rfl
