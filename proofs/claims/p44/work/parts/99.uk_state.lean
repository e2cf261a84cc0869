/-! the class reads a text without a fault: where it stands -/
/-- without a fault: these tokens are still to be read -/
def PS (u : Nat → Nat) (e n g P : Nat) (ts : List (Nat × Nat)) (σ : Wd) : Prop :=
  (Tks u e P ts ∧ P + ts.length ≤ 400) ∧ (TokC u e σ ∧ gI σ 6 3 = nI n ∧ n ≤ 401 ∧ Rch u e n ∧ (sq u e n = e ∨ n = 401)) ∧
  (gI σ 6 4 = nI P ∧ gI σ 2 7 = 0 ∧ gI σ 2 9 = 0 ∧ gR σ 2 6 = g ∧ (g = 10 ∨ g = 19)) ∧ (∃ s, s ≤ 400 ∧ gI σ g 13 = nI s)
section PSs
variable {u : Nat → Nat} {e n g P : Nat} {ts : List (Nat × Nat)} {σ : Wd}
theorem PS.keep {σ' : Wd} (h : PS u e n g P ts σ) (h1 : ∀ c j, (c = 7 ∨ c = 8 ∨ (c = 6 ∧ (j = 3 ∨ j = 4)) ∨ (c = 2 ∧ (j = 7 ∨ j = 9)) ∨ (c = g ∧ j = 13)) → gI σ' c j = gI σ c j) (h2 : ∀ j, gL σ' 9 j = gL σ 9 j) (h3 : gR σ' 2 6 = gR σ 2 6) : PS u e n g P ts σ' := by
  obtain ⟨a, ⟨b1, b2, b3, b4, b5⟩, ⟨c1, c2, c3, c4, c5⟩, ⟨s, s1, s2⟩⟩ := h
  refine ⟨a, ⟨fun k hk hr => ?_, (h1 6 3 (by omega)).trans b2, b3, b4, b5⟩, ⟨(h1 6 4 (by omega)).trans c1, (h1 2 7 (by omega)).trans c2, (h1 2 9 (by omega)).trans c3, h3.trans c4, c5⟩, ⟨s, s1, (h1 g 13 (by omega)).trans s2⟩⟩
  have := b1 k hk hr
  unfold RwC at this ⊢
  rw [h1 7 k (by omega), h1 8 k (by omega), h2]
  exact this
theorem PS.wI {c k : Nat} {v : Int32} (h : PS u e n g P ts σ) (hc : ¬ (c = 7 ∨ c = 8 ∨ (c = 6 ∧ (k = 3 ∨ k = 4)) ∨ (c = 2 ∧ (k = 7 ∨ k = 9)) ∨ (c = g ∧ k = 13))) : PS u e n g P ts (uI σ c k v) :=
  h.keep (fun c' j hj => by rw [gI_uI, if_neg (fun z => hc (by rw [← z.1, ← z.2]; exact hj))]) (fun _ => rfl) rfl
theorem PS.wS {s : Nat} (h : PS u e n g P ts σ) (hs : s ≤ 400) : PS u e n g P ts (uI σ g 13 (nI s)) := by
  obtain ⟨a, ⟨b1, b2, b3, b4, b5⟩, ⟨c1, c2, c3, c4, c5⟩, _⟩ := h
  have o : ∀ c j, ¬ (c = g ∧ j = 13) → gI (uI σ g 13 (nI s)) c j = gI σ c j := fun c j z => by rw [gI_uI, if_neg z]
  refine ⟨a, ⟨fun k hk hr => ?_, (o 6 3 (by omega)).trans b2, b3, b4, b5⟩, ⟨(o 6 4 (by omega)).trans c1, (o 2 7 (by omega)).trans c2, (o 2 9 (by omega)).trans c3, c4, c5⟩, ⟨s, hs, gI_s⟩⟩
  have := b1 k hk hr
  unfold RwC at this ⊢
  rw [o 7 k (by omega), o 8 k (by omega)]
  exact this
theorem PS.hg (h : PS u e n g P ts σ) : gR σ 2 6 = g ∧ (g = 10 ∨ g = 19) ∧ gI σ 2 7 = 0 ∧ gI σ 2 9 = 0 := ⟨h.2.2.1.2.2.2.1, h.2.2.1.2.2.2.2, h.2.2.1.2.1, h.2.2.1.2.2.1⟩
theorem PS.fam (h : PS u e n g P ts σ) : famT (gR σ 2 6) := by
  rw [h.hg.1]; exact h.hg.2.1
theorem PS.bd (h : PS u e n g P ts σ) : P ≤ 400 := by
  have := h.1.2
  omega
theorem Tks.rch : ∀ {ts : List (Nat × Nat)} {P : Nat}, Tks u e P ts → Rch u e P
  | [], _, h => h.1
  | (_, _) :: _, _, h => h.1
theorem PS.fin (h : PS u e n g P [] σ) : M_X6_kind σ = some 0 := by
  have hP := h.bd
  obtain ⟨⟨⟨a1, a2⟩, _⟩, ⟨b1, _⟩, ⟨c1, _⟩, _⟩ := h
  have r := (b1 P hP a1).1
  unfold M_X6_kind
  rw [c1, chk_pos ((ib_nI (by omega)).mpr (by omega)), ix_nI (by omega), r, a2]
  rfl
section HD
variable {k v : Nat}
theorem PS.now (h : PS u e n g P ((k, v) :: ts) σ) : P < 400 ∧ M_X6_kind σ = some (nI (ck k)) ∧ M_X6_start σ = some (nI (sq u e P)) ∧ VK k ∧ (k = 1 → M_X6_name σ = some (lN (cv 8 v)) ∧ v < 27 ^ 8) ∧ (k = 2 → M_X6_number σ = some (nI v)) ∧ (k ≠ 0 → P < n) := by
  have hP0 := h.1.2
  obtain ⟨⟨⟨a1, a2, a3, a4⟩, _⟩, ⟨b1, b2, b3, b4, b5⟩, ⟨c1, _⟩, _⟩ := h
  have hP : P < 400 := by rw [List.length_cons] at hP0; omega
  obtain ⟨r1, r2, r3, r4⟩ := b1 P (by omega) a1
  have ci : ib (nI P) 402 := (ib_nI (by omega)).mpr (by omega)
  refine ⟨hP, ?_, ?_, by rw [← a2]; exact kTk_VK.1, fun z => ?_, fun z => ?_, fun z => ?_⟩
  · unfold M_X6_kind
    rw [c1, chk_pos ci, ix_nI (by omega), r1, a2]
  · unfold M_X6_start
    rw [c1, chk_pos ci, ix_nI (by omega), r2]
  · obtain ⟨q1, q2⟩ := r3 (a2.trans z)
    rw [a3 (Or.inl z)] at q1 q2
    refine ⟨?_, q2⟩
    unfold M_X6_name
    rw [c1, chk_pos ci, ix_nI (by omega), q1]
  · obtain ⟨q1, q2⟩ := r4 (a2.trans z)
    rw [a3 (Or.inr z)] at q1
    unfold M_X6_number
    rw [c1, chk_pos ci, ix_nI (by omega), lN32 q1]
  · have hs : sq u e P < e := Classical.byContradiction fun q => z (by rw [← a2]; exact kTk_VK.2.2 q)
    refine Classical.byContradiction fun q => ?_
    rcases b5 with w | w
    · by_cases e0 : n = P
      · rw [e0] at w; omega
      · have := a1 n (by omega); omega
    · omega
theorem PS.take (h : PS u e n g P ((k, v) :: ts) σ) (hk : k ≠ 0) : M_X3_take σ (nI (ck k)) = some (uI σ 6 4 (nI (P + 1))) ∧ PS u e n g (P + 1) ts (uI σ 6 4 (nI (P + 1))) := by
  obtain ⟨q1, q2, q3, q4, q5, q6, q7⟩ := h.now
  have q7 := q7 hk
  obtain ⟨⟨⟨a1, a2, a3, a4⟩, a5⟩, ⟨b1, b2, b3, b4, b5⟩, ⟨c1, c2, c3, c4, c5⟩, ⟨s, s1, s2⟩⟩ := h
  constructor
  · unfold M_X3_take M_X6_isOneTooMany M_X6_advance
    rw [c2, if_pos rfl, q2, bnd1_some, if_pos rfl, c1, if_pos (show nI P < 400 from (nI_ltI (b := 400) (by omega) (by omega)).mpr q1), bnd1_some, if_pos rfl, b2, if_neg (fun z => by have := (nI_leI (by omega) (by omega)).mp z; omega), nI_1]
    rfl
  · have o : ∀ c j, ¬ (c = 6 ∧ j = 4) → gI (uI σ 6 4 (nI (P + 1))) c j = gI σ c j := fun c j z => by rw [gI_uI, if_neg z]
    rw [List.length_cons] at a5
    refine ⟨⟨a4, by omega⟩, ⟨fun k hk hr => ?_, (o 6 3 (by omega)).trans b2, b3, b4, b5⟩, ⟨gI_s, (o 2 7 (by omega)).trans c2, (o 2 9 (by omega)).trans c3, c4, c5⟩, ⟨s, s1, (o g 13 (by omega)).trans s2⟩⟩
    have := b1 k hk hr
    unfold RwC at this ⊢
    rw [o 7 k (by omega), o 8 k (by omega)]
    exact this
end HD
end PSs
/-- the names told: m of them, nc CELLS, then FORMS -/
def nvF (nc i : Nat) : Nat := if i < nc then 82 + i else 163 + (i - nc)
def naF (nc i : Nat) : Int32 := if i < nc then nI i else -1
def NM (nc m : Nat) (σ : Wd) : Prop := gI σ 2 3 = nI m ∧ m ≤ 8 ∧ nc ≤ 4 ∧ ∀ i, i < m → gL σ 3 i = lN (cv 8 (nvF nc i)) ∧ gI σ 4 i = naF nc i
theorem NM.keep {nc m : Nat} {σ σ' : Wd} (h : NM nc m σ) (h1 : gI σ' 2 3 = gI σ 2 3) (h2 : ∀ i, gL σ' 3 i = gL σ 3 i) (h3 : ∀ i, gI σ' 4 i = gI σ 4 i) : NM nc m σ' := by
  obtain ⟨a, b, b', c⟩ := h
  exact ⟨h1.trans a, b, b', fun i hi => ⟨(h2 i).trans (c i hi).1, (h3 i).trans (c i hi).2⟩⟩
theorem nv_inj {nc i j : Nat} (hn : nc ≤ 4) (h : nvF nc i = nvF nc j) (hi : i < 12) (hj : j < 12) : i = j := by
  unfold nvF at h
  split at h <;> split at h <;> omega
theorem nv_lt {nc i : Nat} (hi : i < 12) : nvF nc i < 27 ^ 8 := by
  have : nvF nc i < 200 := by unfold nvF; split <;> omega
  exact Nat.lt_of_lt_of_le this (by decide)
/-- a name is looked for: the first of this value, or none -/
theorem NM.find {nc m x : Nat} {σ : Wd} (h : NM nc m σ) (hx : x < 27 ^ 8) : (∃ i, i < m ∧ nvF nc i = x ∧ M_X3_findName σ (lN (cv 8 x)) = some (nI i)) ∨ ((∀ i, i < m → nvF nc i ≠ x) ∧ M_X3_findName σ (lN (cv 8 x)) = some (-1)) := by
  obtain ⟨a1, a2, a2', a5⟩ := h
  have q := ow_iter (body := fun s : Int32 => M_X3_findName_L2 σ (lN (cv 8 x)) s) (Q := fun y => (∃ i, i < m ∧ nvF nc i = x ∧ y = .inr (nI i)) ∨ ((∀ i, i < m → nvF nc i ≠ x) ∧ y = .inl ())) (fun k s => ∃ i, i ≤ m ∧ k = m - i ∧ s = nI i ∧ ∀ j, j < i → nvF nc j ≠ x) (fun k s ⟨i, hi, hk, hs, hj⟩ => by
    subst hs
    show ow (M_X3_findName_L2 σ (lN (cv 8 x)) (nI i)) _
    unfold M_X3_findName_L2
    rw [a1]
    by_cases h0 : m ≤ i
    · rw [if_pos ((nI_leI (by omega) (by omega)).mpr h0)]
      exact ow_some.mpr (Or.inr ⟨fun j h => hj j (by omega), rfl⟩)
    · obtain ⟨b1, b3⟩ := a5 i (by omega)
      have b2 := nv_lt (nc := nc) (i := i) (by omega)
      rw [if_neg (fun z => h0 ((nI_leI (by omega) (by omega)).mp z)), chk_pos ((ib_nI (by omega)).mpr (by omega)), ix_nI (by omega), b1]
      simp only [lt_eq]
      rw [nI_1]
      by_cases hq : nvF nc i = x
      · rw [if_neg (fun z => z ((lg_cmp_eq _ _).mpr (by rw [hq])))]
        exact ow_some.mpr (Or.inl ⟨i, by omega, hq, rfl⟩)
      · rw [if_pos (fun z => hq (cv_inj 8 _ _ b2 hx (lN_in (cv_lt 8 _) (cv_lt 8 _) ((lg_cmp_eq _ _).mp z))))]
        exact ow_some.mpr ⟨m - (i + 1), by omega, i + 1, by omega, rfl, rfl, fun j h => by
          by_cases e0 : j = i
          · rw [e0]; exact hq
          · exact hj j (by omega)⟩) FU (m - 0) (0 : Int32) (FU_big (by omega)) ⟨0, Nat.zero_le _, rfl, rfl, fun j h => absurd h (Nat.not_lt_zero j)⟩
  obtain ⟨y, h1, h2⟩ := q
  unfold M_X3_findName
  rw [show iter (fun s : Int32 => M_X3_findName_L2 σ (lN (cv 8 x)) s) FU (0 : Int32) = some y from h1, bnd1_some]
  rcases h2 with ⟨i, i1, i2, rfl⟩ | ⟨i1, rfl⟩
  · exact Or.inl ⟨i, i1, i2, rfl⟩
  · exact Or.inr ⟨i1, rfl⟩
/-- a cell told is found -/
theorem NM.cell {u : Nat → Nat} {e n g P nc m k : Nat} {ts : List (Nat × Nat)} {σ : Wd} (h : NM nc m σ) (hS : PS u e n g P ((1, 82 + k) :: ts) σ) (hk : k < nc) (hm : nc ≤ m) : M_X3_cellHere σ = some (nI k, σ) := by
  obtain ⟨q1, q2, q3, q4, q5, q6, q7⟩ := hS.now
  obtain ⟨n1, n2⟩ := q5 rfl
  have hn4 := h.2.2.1
  have e0 : nvF nc k = 82 + k := by unfold nvF; rw [if_pos hk]
  unfold M_X3_cellHere
  rw [hS.hg.2.2.1, if_neg z00, q2, bnd1_some, if_pos (show nI (ck 1) = 2 from rfl), n1, bnd1_some]
  rcases h.find n2 with ⟨i, i1, i2, i3⟩ | ⟨i1, _⟩
  · have hmm := h.2.1
    have ei : i = k := nv_inj hn4 (i2.trans e0.symm) (by omega) (by omega)
    subst ei
    obtain ⟨_, b2⟩ := h.2.2.2 i i1
    have na : naF nc i = nI i := by unfold naF; rw [if_pos hk]
    have ne : nI i ≠ -1 := fun z => nI_n0 (show i < 2 ^ 31 by omega) (by rw [z]; decide)
    rw [i3, bnd1_some, if_pos ne, chk_pos ((ib_nI (by omega)).mpr (by omega)), ix_nI (by omega), b2, na]
    unfold M_X3_cellHere_J47
    rw [if_pos ne]
  · exact absurd e0 (i1 k (by omega))
/-- a name is kept -/
def kpW (σ : Wd) (m : Nat) (x : Int64) (v : Int32) : Wd := uI (uI (uL σ 3 m x) 4 m v) 2 3 (nI (m + 1))
theorem NM.kept {u : Nat → Nat} {e n g P nc m x : Nat} {ts : List (Nat × Nat)} {σ : Wd} (h : NM nc m σ) (hS : PS u e n g P ((1, x) :: ts) σ) (hx : x = nvF nc m) (hm : m < 8) : M_X3_keepName σ (naF nc m) = some (kpW σ m (lN (cv 8 x)) (naF nc m)) ∧ NM nc (m + 1) (kpW σ m (lN (cv 8 x)) (naF nc m)) ∧ PS u e n g P ((1, x) :: ts) (kpW σ m (lN (cv 8 x)) (naF nc m)) := by
  obtain ⟨q1, q2, q3, q4, q5, q6, q7⟩ := hS.now
  obtain ⟨n1, n2⟩ := q5 rfl
  have hg := hS.hg
  obtain ⟨a1, a2, a3, a4⟩ := h
  have ci : ib (nI m) 12 := (ib_nI (by omega)).mpr (by omega)
  refine ⟨?_, ⟨gI_s, by omega, a3, fun i hi => ?_⟩, ?_⟩
  · unfold M_X3_keepName
    rw [hg.2.2.1, if_neg z00, q2, bnd1_some, if_neg (show ¬ nI (ck 1) ≠ 2 from fun z => z rfl), a1, if_pos (show nI m < 12 from (nI_ltI (b := 12) (by omega) (by omega)).mpr (by omega)), n1, bnd1_some]
    rcases NM.find ⟨a1, a2, a3, a4⟩ n2 with ⟨i, i1, i2, _⟩ | ⟨_, i3⟩
    · have := nv_inj a3 (i2.trans hx) (by omega) (by omega)
      omega
    · rw [i3, bnd1_some, if_pos rfl]
      unfold M_X3_keepName_J55 kpW
      rw [n1, bnd1_some, a1, chk_pos ci, ix_nI (by omega)]
      simp only [lt_eq]
      have e1 : gI (uL σ 3 m (lN (cv 8 x))) 2 3 = nI m := a1
      have e2 : gI (uI (uL σ 3 m (lN (cv 8 x))) 4 m (naF nc m)) 2 3 = nI m := by rw [gI_uI, if_neg (by omega)]; exact e1
      rw [e1, chk_pos ci, ix_nI (by omega), e2, nI_1]
  · unfold kpW
    have eL : gL (uI (uI (uL σ 3 m (lN (cv 8 x))) 4 m (naF nc m)) 2 3 (nI (m + 1))) 3 i = if 3 = 3 ∧ i = m then lN (cv 8 x) else gL σ 3 i := by
      show gL (uL σ 3 m (lN (cv 8 x))) 3 i = _
      rw [gL_uL]
    have eI : gI (uI (uI (uL σ 3 m (lN (cv 8 x))) 4 m (naF nc m)) 2 3 (nI (m + 1))) 4 i = if 4 = 4 ∧ i = m then naF nc m else gI σ 4 i := by
      rw [gI_uI, if_neg (by omega), gI_uI, gI_uL]
    rw [eL, eI]
    by_cases e0 : i = m
    · rw [if_pos ⟨rfl, e0⟩, if_pos ⟨rfl, e0⟩, e0, hx]
      exact ⟨rfl, rfl⟩
    · rw [if_neg (fun z => e0 z.2), if_neg (fun z => e0 z.2)]
      exact a4 i (by omega)
  · unfold kpW
    have o : ∀ c j, ¬ (c = 4 ∨ (c = 2 ∧ j = 3)) → gI (uI (uI (uL σ 3 m (lN (cv 8 x))) 4 m (naF nc m)) 2 3 (nI (m + 1))) c j = gI σ c j := fun c j z => by rw [gI_uI, if_neg (by omega), gI_uI, if_neg (by omega), gI_uL]
    refine hS.keep (fun c j hj => o c j (by omega)) (fun j => ?_) rfl
    rw [gL_uI, gL_uI, gL_uL, if_neg (by omega)]
