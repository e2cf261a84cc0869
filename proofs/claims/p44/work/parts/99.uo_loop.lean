/-! the class reads the text without a fault -/
abbrev rdB (g : Nat) (v : Int32) : Int32 × Wd → Option ((Int32 × Wd) ⊕ Wd) := fun s => M_X3_readInto_L49 g v s.1 s.2
section LP
variable {u : Nat → Nat} {e n g P : Nat} {v : Int32}
theorem ps_step {k v0 v4 N : Nat} {ks : List (Nat × Nat)} {σ σ' x : Wd} (h : PS u e n g P ((k, v0) :: ks) σ) (hv : v4 ≤ 400) (h1 : (k = 22 → M_X3_tellCell σ = some σ') ∧ (k = 23 → M_X3_tellForm σ = some σ') ∧ (k ≠ 22 → k ≠ 23 → M_X3_tellNumber σ (nI (ck k)) = some σ')) (hk : k ≠ 0) (hr : iter (rdB g v) N (nI (v4 + 1), σ') = some x) : iter (rdB g v) (N + 1) (nI v4, σ) = some x := by
  obtain ⟨q1, kd, q3, vk, _⟩ := h.now
  have hg := h.hg
  refine (it_s (s' := (nI (v4 + 1), σ')) ?_).trans hr
  show M_X3_readInto_L49 g v (nI v4) σ = _
  unfold M_X3_readInto_L49
  have n0 : nI (ck k) ≠ 0 := fun z => hk ((ck_eq (b := 0) vk (by decide)).mp z)
  rw [if_neg (show ¬ (400 : Int32) < nI v4 from fun z => by have := (nI_ltI (a := 400) (by omega) (by omega)).mp z; omega), hg.2.2.1, if_neg z00, kd, bnd1_some, if_neg n0, bnd1_some]
  by_cases k22 : k = 22
  · subst k22
    rw [if_neg (show ¬ nI (ck 22) ≠ 102 from fun z => z rfl), h1.1 rfl, bnd1_some, lt_eq, nI_1]
  · have n22 : nI (ck k) ≠ 102 := fun z => k22 ((ck_eq (b := 22) vk (by decide)).mp z)
    rw [if_pos n22]
    by_cases k23 : k = 23
    · subst k23
      rw [if_neg (show ¬ nI (ck 23) ≠ 103 from fun z => z rfl), h1.2.1 rfl, bnd1_some, lt_eq, nI_1]
    · have n23 : nI (ck k) ≠ 103 := fun z => k23 ((ck_eq (b := 23) vk (by decide)).mp z)
      rw [if_pos n23, h1.2.2 k22 k23, bnd1_some, lt_eq, nI_1]
theorem ps_end {v4 N : Nat} {σ : Wd} (h : PS u e n g P [] σ) (hv : v4 ≤ 400) : iter (rdB g v) (N + 1) (nI v4, σ) = some σ := by
  have hg := h.hg
  refine it_x ?_
  show M_X3_readInto_L49 g v (nI v4) σ = _
  unfold M_X3_readInto_L49
  rw [if_neg (show ¬ (400 : Int32) < nI v4 from fun z => by have := (nI_ltI (a := 400) (by omega) (by omega)).mp z; omega), hg.2.2.1, if_neg z00, h.fin, bnd1_some, if_pos rfl]
/-- the forms -/
theorem ps_fs {nc : Nat} {D : Nat → Fw} : ∀ (k f P v4 N : Nat) (σ : Wd), f + k ≤ 4 → (0 < k → ∀ f, FwIn nc (D f)) → PS u e n g P (fsK D k f) σ → NM nc (nc + f) σ → gI σ g 4 = nI f → v4 + k ≤ 400 → k < N → ∃ P' x, iter (rdB g v) N (nI v4, σ) = some x ∧ PS u e n g P' [] x ∧ (∀ c j, (c = g ∧ (j = 0 ∨ j = 1 ∨ j = 3)) ∨ c = g + 1 ∨ (c = g + 4 ∧ j < f) → gI x c j = gI σ c j) ∧ gI x g 4 = nI (f + k) ∧ ∀ i, f ≤ i → i < f + k → gI x (g + 4) i = elV (D i) := by
  intro k
  induction k with
  | zero =>
    intro f P v4 N σ _ _ h _ h4 hv hN
    obtain ⟨N', rfl⟩ : ∃ N', N = N' + 1 := ⟨N - 1, by omega⟩
    exact ⟨P, σ, ps_end h (by omega), h, fun _ _ _ => rfl, h4, fun i h1 h2 => by omega⟩
  | succ k ih =>
    intro f P v4 N σ hf hD h hNM h4 hv hN
    obtain ⟨N', rfl⟩ : ∃ N', N = N' + 1 := ⟨N - 1, by omega⟩
    have hx := hD (Nat.succ_pos _) f
    obtain ⟨P1, σ1, e1, h1, N1, k1, q1, q2⟩ := PS.tellF hx (by omega) h hNM h4
    obtain ⟨P2, x, e2, h2, k2, q3, q4⟩ := ih (f + 1) P1 (v4 + 1) N' σ1 (by omega) (fun _ => hD (Nat.succ_pos _)) h1 N1 q1 (by omega) (by omega)
    refine ⟨P2, x, ps_step (k := 23) h (by omega) ⟨fun z => by omega, fun _ => e1, fun _ z => absurd rfl z⟩ (by decide) e2, h2, fun c j hc => (k2 c j (by omega)).trans (k1 c j (by omega)), by rw [q3]; congr 1; omega, fun i i1 i2 => ?_⟩
    by_cases z : i = f
    · subst z
      exact (k2 (g + 4) i (by omega)).trans q2
    · exact q4 i (by omega) (by omega)
/-- the cells, then the forms -/
theorem ps_cs {nc nf : Nat} {D : Nat → Fw} {fv : Nat → Nat} (hnf : nf ≤ 4) (hD : 0 < nf → ∀ f, FwIn nc (D f)) : ∀ (k i P v4 N : Nat) (σ : Wd), i + k = nc → PS u e n g P (csK fv k i (fsK D nf 0)) σ → NM nc i σ → gI σ g 3 = nI i → gI σ g 4 = nI 0 → v4 + k + nf ≤ 400 → k + nf < N → ∃ P' x, iter (rdB g v) N (nI v4, σ) = some x ∧ PS u e n g P' [] x ∧ (∀ c j, (c = g ∧ (j = 0 ∨ j = 1)) ∨ (c = g + 1 ∧ j < i) → gI x c j = gI σ c j) ∧ gI x g 3 = nI nc ∧ gI x g 4 = nI nf ∧ (∀ j, i ≤ j → j < nc → gI x (g + 1) j = nI (fv j)) ∧ ∀ f, f < nf → gI x (g + 4) f = elV (D f) := by
  intro k
  induction k with
  | zero =>
    intro i P v4 N σ hi h hNM h3 h4 hv hN
    have hi : i = nc := hi
    subst hi
    obtain ⟨P1, x, e1, h1, k1, q1, q2⟩ := ps_fs (v := v) (nc := i) nf 0 P v4 N σ (by omega) hD h hNM h4 (by omega) (by omega)
    exact ⟨P1, x, e1, h1, fun c j hc => k1 c j (by omega), (k1 g 3 (by omega)).trans h3, by rw [q1, Nat.zero_add], fun j j1 j2 => by omega, fun f hf => q2 f (Nat.zero_le _) (by omega)⟩
  | succ k ih =>
    intro i P v4 N σ hi h hNM h3 h4 hv hN
    obtain ⟨N', rfl⟩ : ∃ N', N = N' + 1 := ⟨N - 1, by omega⟩
    obtain ⟨σ1, e1, h1, N1, q1, q2, k1⟩ := PS.tellC (ks := csK fv k (i + 1) (fsK D nf 0)) h hNM (by omega) h3
    obtain ⟨P2, x, e2, h2, k2, q3, q4, q5, q6⟩ := ih (i + 1) (P + 4) (v4 + 1) N' σ1 (by omega) h1 N1 q1 ((k1 g 4 (by omega)).trans h4) (by omega) (by omega)
    refine ⟨P2, x, ps_step (k := 22) h (by omega) ⟨fun _ => e1, fun z => by omega, fun z _ => absurd rfl z⟩ (by decide) e2, h2, fun c j hc => (k2 c j (by omega)).trans (k1 c j (by omega)), q3, q4, fun j j1 j2 => ?_, q6⟩
    by_cases z : j = i
    · subst z
      exact (k2 (g + 1) j (by omega)).trans q2
    · exact q5 j (by omega) j2
end LP
theorem tmK_l {x : Nat × Nat × Nat} : (tmKx x).length ≤ 7 := by
  unfold tmKx tmK
  repeat' split
  all_goals simp only [List.length_cons, List.length_nil]; omega
theorem foK_l {f : Nat} {x : Fw} {ts : List (Nat × Nat)} : (foK f x ts).length ≤ 37 + ts.length := by
  have a1 := tmK_l (x := x.1)
  have a2 := tmK_l (x := x.2.1)
  have a3 := tmK_l (x := x.2.2.1)
  have a4 := tmK_l (x := x.2.2.2.1)
  unfold foK elK
  split
  · simp only [List.length_append, List.length_cons]; omega
  · simp only [List.length_append, List.length_cons]; omega
theorem fsK_l {D : Nat → Fw} : ∀ k f, (fsK D k f).length ≤ 37 * k := by
  intro k
  induction k with
  | zero => intro f; exact Nat.le_refl _
  | succ k ih =>
    intro f
    have := ih (f + 1)
    have := foK_l (f := f) (x := D f) (ts := fsK D k (f + 1))
    show (foK f (D f) (fsK D k (f + 1))).length ≤ _
    omega
theorem csK_l {fv : Nat → Nat} : ∀ k i ts, (csK fv k i ts).length = 4 * k + ts.length := by
  intro k
  induction k with
  | zero => intro i ts; show ts.length = 4 * 0 + ts.length; omega
  | succ k ih =>
    intro i ts
    show ((22, 0) :: (1, 82 + i) :: (2, fv i) :: (4, 0) :: csK fv k (i + 1) ts).length = _
    simp only [List.length_cons, ih]
    omega
theorem txK_l {sd n pr nc nf : Nat} {fv : Nat → Nat} {D : Nat → Fw} (h1 : nc ≤ 4) (h2 : nf ≤ 4) : (txK sd n pr nc nf fv D).length ≤ 200 := by
  have := fsK_l (D := D) nf 0
  unfold txK
  simp only [List.length_cons, csK_l]
  omega
/-- all is read: no fault, and what is told -/
theorem c_reads {σ : Wd} {u : Nat → Nat} {g e sd n pr nc nf : Nat} {fv : Nat → Nat} {D : Nat → Fw} (hg : g = 10 ∨ g = 19) (he : e ≤ 2000) (hu : ∀ i, i < e → u i < 256 ∧ gI σ 1 i = sb (u i)) (hT : Tks u e 0 (txK sd n pr nc nf fv D)) (hn1 : 1 ≤ n) (hn5 : n ≤ 5) (hpr : pr < n) (hnc : nc ≤ 4) (hnf : nf ≤ 4) (hD : 0 < nf → ∀ f, FwIn nc (D f)) : ∃ x, M_X3_readInto σ (nI e) g = some (0, x) ∧ gI x g 0 = nI n ∧ gI x g 1 = nI pr ∧ gI x g 3 = nI nc ∧ gI x g 4 = nI nf ∧ (∀ j, j < nc → gI x (g + 1) j = nI (fv j)) ∧ ∀ f, f < nf → gI x (g + 4) f = elV (D f) := by
  obtain ⟨σs, N0, c1, c2, c3, c4, c5, c6, c7, c8, c9, c10, c11, c12⟩ := c_start (σ := σ) (u := u) hg he hu
  obtain ⟨v1, v2, v3, v4, v5, v6, v7, v8, v9, v10⟩ := rdC_v (σ := σ) hg
  have hl := txK_l (sd := sd) (n := n) (pr := pr) (fv := fv) (D := D) hnc hnf
  have h0 : PS u e N0 g 0 (txK sd n pr nc nf fv D) σs := ⟨⟨hT, by omega⟩, ⟨c2, c4, c5, c6, c7⟩, ⟨c3, (c8 7).trans v2, (c8 9).trans v3, (c12 2 6).trans (if_pos ⟨rfl, rfl⟩), hg⟩, ⟨0, Nat.zero_le _, (c9 13).trans v10⟩⟩
  unfold txK at h0
  obtain ⟨j1, _, _, a1, e1, h1⟩ := h0.tellN (Or.inr (Or.inr rfl))
  have a1 := a1 rfl
  subst a1
  obtain ⟨j2, a2, _, _, e2, h2⟩ := h1.tellN (Or.inl ⟨rfl, hn1, hn5⟩)
  have a2 := a2 rfl
  subst a2
  obtain ⟨j3, _, a3, _, e3, h3⟩ := h2.tellN (Or.inr (Or.inl ⟨rfl, by omega⟩))
  have a3 := a3 rfl
  subst a3
  obtain ⟨s1, hs1⟩ : ∃ s1, s1 = uI (tk1 (tk1 (tk1 σs 0) (0 + 1)) (0 + 2)) g 2 (nI sd) := ⟨_, rfl⟩
  rw [← hs1] at e1 h1 e2 h2 e3 h3
  obtain ⟨s2, hs2⟩ : ∃ s2, s2 = uI (tk1 (tk1 (tk1 s1 (0 + 3)) (0 + 3 + 1)) (0 + 3 + 2)) g 0 (nI n) := ⟨_, rfl⟩
  rw [← hs2] at e2 h2 e3 h3
  obtain ⟨s3, hs3⟩ : ∃ s3, s3 = uI (tk1 (tk1 (tk1 s2 (0 + 3 + 3)) (0 + 3 + 3 + 1)) (0 + 3 + 3 + 2)) g 1 (nI pr) := ⟨_, rfl⟩
  rw [← hs3] at e3 h3
  have o1 : ∀ c j, ¬ (c = 6 ∧ j = 4) → ¬ (c = g ∧ j = 2) → gI s1 c j = gI σs c j := fun c j z1 z2 => by rw [hs1, gI_uI, if_neg z2, tk_o z1, tk_o z1, tk_o z1]
  have o2 : ∀ c j, ¬ (c = 6 ∧ j = 4) → ¬ (c = g ∧ j = 0) → gI s2 c j = gI s1 c j := fun c j z1 z2 => by rw [hs2, gI_uI, if_neg z2, tk_o z1, tk_o z1, tk_o z1]
  have o3 : ∀ c j, ¬ (c = 6 ∧ j = 4) → ¬ (c = g ∧ j = 1) → gI s3 c j = gI s2 c j := fun c j z1 z2 => by rw [hs3, gI_uI, if_neg z2, tk_o z1, tk_o z1, tk_o z1]
  have r23 : gI s3 2 3 = nI 0 := by rw [o3 2 3 (by omega) (by omega), o2 2 3 (by omega) (by omega), o1 2 3 (by omega) (by omega), c8 3]; exact v1
  have r3 : gI s3 g 3 = nI 0 := by rw [o3 g 3 (by omega) (by omega), o2 g 3 (by omega) (by omega), o1 g 3 (by omega) (by omega), c9 3]; exact v8
  have r4 : gI s3 g 4 = nI 0 := by rw [o3 g 4 (by omega) (by omega), o2 g 4 (by omega) (by omega), o1 g 4 (by omega) (by omega), c9 4]; exact v9
  have r0 : gI s3 g 0 = nI n := by rw [o3 g 0 (by omega) (by omega), hs2, gI_s]
  have r1 : gI s3 g 1 = nI pr := by rw [hs3, gI_s]
  have hFU : ∃ N, FU = N + 1 + 1 + 1 ∧ 8 < N := ⟨999997, by unfold FU; omega, by omega⟩
  obtain ⟨N, hN, hN2⟩ := hFU
  obtain ⟨P', x, e4, h4, k4, q3, q4, q5, q6⟩ := ps_cs (v := nI e) hnf hD nc 0 _ 3 N s3 (by omega) h3 ⟨r23, by omega, hnc, fun i hi => absurd hi (Nat.not_lt_zero i)⟩ r3 r4 (by omega) (by omega)
  have L : iter (rdB g (nI e)) FU ((0 : Int32), σs) = some x := by
    rw [hN]
    exact ps_step (k := 27) (v4 := 0) h0 (by omega) ⟨fun z => by omega, fun z => by omega, fun _ _ => e1⟩ (by decide) (ps_step (k := 20) (v4 := 1) h1 (by omega) ⟨fun z => by omega, fun z => by omega, fun _ _ => e2⟩ (by decide) (ps_step (k := 21) (v4 := 2) h2 (by omega) ⟨fun z => by omega, fun z => by omega, fun _ _ => e3⟩ (by decide) e4))
  have g4 := h4.hg
  have x0 : gI x g 0 = nI n := (k4 g 0 (by omega)).trans r0
  have x1 : gI x g 1 = nI pr := (k4 g 1 (by omega)).trans r1
  have L : iter (fun s : Int32 × Wd => M_X3_readInto_L49 g (nI e) s.1 s.2) FU ((0 : Int32), σs) = some x := L
  rw [c1, L, bnd1_some]
  show ∃ y, M_X3_readInto_J123 g x (nI e) = some (0, y) ∧ _
  unfold M_X3_readInto_J123 M_X3_readInto_J147 M_X3_readInto_J170
  rw [g4.1, chk_pos g4.2.1, chk_pos g4.2.1, x0, x1, if_pos ((nI_ltI (by omega) (by omega)).mpr hpr), g4.2.2.1, if_neg z00, g4.2.2.2]
  simp only [lt_eq]
  have o : ∀ a c j, c ≠ 2 → gI (uI (uI x 2 7 0) 2 8 a) c j = gI x c j := fun a c j z => by rw [gI_uI, if_neg (fun w => z w.1), gI_uI, if_neg (fun w => z w.1)]
  refine ⟨_, by rw [gI_uI, if_neg (by omega), gI_s], ?_, ?_, ?_, ?_, fun j hj => ?_, fun f hf => ?_⟩
  · rw [o _ g 0 (by omega)]; exact x0
  · rw [o _ g 1 (by omega)]; exact x1
  · rw [o _ g 3 (by omega)]; exact q3
  · rw [o _ g 4 (by omega)]; exact q4
  · rw [o _ (g + 1) j (by omega)]; exact q5 j (Nat.zero_le _) hj
  · rw [o _ (g + 4) f (by omega)]; exact q6 f hf
