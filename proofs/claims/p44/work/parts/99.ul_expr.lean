/-! the class reads an expression without a fault -/
def KE (g : Nat) (σ0 σ : Wd) : Prop := (∀ c j, ¬ (c = 5 ∨ (c = 2 ∧ j = 5) ∨ (c = 6 ∧ j = 4) ∨ (c = g ∧ j = 13) ∨ (g + 5 ≤ c ∧ c ≤ g + 8)) → gI σ c j = gI σ0 c j) ∧ σ.2 = σ0.2
theorem KE.refl {g : Nat} {σ : Wd} : KE g σ σ := ⟨fun _ _ _ => rfl, rfl⟩
theorem KE.wI {g : Nat} {σ0 σ : Wd} {c k : Nat} {v : Int32} (h : KE g σ0 σ) (hc : c = 5 ∨ (c = 2 ∧ k = 5) ∨ (c = 6 ∧ k = 4) ∨ (c = g ∧ k = 13) ∨ (g + 5 ≤ c ∧ c ≤ g + 8)) : KE g σ0 (uI σ c k v) := ⟨fun d j hd => by
  rw [gI_uI, if_neg (fun z => hd (by rw [z.1, z.2]; exact hc))]
  exact h.1 d j hd, h.2⟩
theorem KE.trans {g : Nat} {a b c : Wd} (h1 : KE g a b) (h2 : KE g b c) : KE g a c := ⟨fun d j hd => (h2.1 d j hd).trans (h1.1 d j hd), h2.2.trans h1.2⟩
theorem NM.ke {g nc m : Nat} {σ0 σ : Wd} (h : NM nc m σ0) (hk : KE g σ0 σ) (hg : g = 10 ∨ g = 19) : NM nc m σ :=
  h.keep (hk.1 2 3 (by omega)) (fun i => by show σ.2.1 3 i = σ0.2.1 3 i; rw [hk.2]) (fun i => hk.1 4 i (by omega))
def ES (u : Nat → Nat) (e n g P : Nat) (ts : List (Nat × Nat)) (σ0 σ : Wd) : Prop := PS u e n g P ts σ ∧ (∃ w, w ≤ 32 ∧ gI σ 2 5 = nI w) ∧ KE g σ0 σ
section ESs
variable {u : Nat → Nat} {e n g P : Nat} {ts : List (Nat × Nat)} {σ0 σ : Wd}
theorem ES.add (h : ES u e n g P ts σ0 σ) (v w : Int32) : ∃ σ', M_X7_addStep σ g v w = some σ' ∧ ES u e n g P ts σ0 σ' ∧ gI σ' 2 5 = gI σ 2 5 := by
  have hg := h.1.hg.2.1
  obtain ⟨s, s1, s2⟩ := h.1.2.2.2
  obtain ⟨hP, ⟨w0, w1, w2⟩, hK⟩ := h
  unfold M_X7_addStep
  rw [s2]
  by_cases h4 : 400 ≤ s
  · rw [if_pos (show (400 : Int32) ≤ nI s from (nI_leI (a := 400) (by omega) (by omega)).mpr h4)]
    exact ⟨_, rfl, ⟨hP, ⟨w0, w1, w2⟩, hK⟩, rfl⟩
  · have ci : ib (nI s) 400 := (ib_nI (by omega)).mpr (by omega)
    rw [if_neg (show ¬ (400 : Int32) ≤ nI s from fun z => h4 ((nI_leI (a := 400) (by omega) (by omega)).mp z)), chk_pos ci, ix_nI (by omega)]
    simp only [lt_eq]
    have e1 : gI (uI σ (g + 7) s v) g 13 = nI s := by rw [gI_uI, if_neg (by omega)]; exact s2
    have e2 : gI (uI (uI σ (g + 7) s v) (g + 8) s w) g 13 = nI s := by rw [gI_uI, if_neg (by omega)]; exact e1
    rw [e1, chk_pos ci, ix_nI (by omega), e2, nI_1]
    have e5 : gI (uI (uI (uI σ (g + 7) s v) (g + 8) s w) g 13 (nI (s + 1))) 2 5 = gI σ 2 5 := by rw [gI_uI, if_neg (by omega), gI_uI, if_neg (by omega), gI_uI, if_neg (by omega)]
    exact ⟨_, rfl, ⟨((hP.wI (by omega)).wI (by omega)).wS (by omega), ⟨w0, w1, e5.trans w2⟩, ((hK.wI (by omega)).wI (by omega)).wI (by omega)⟩, e5⟩
theorem ES.w5 (h : ES u e n g P ts σ0 σ) {w : Nat} (hw : w ≤ 32) : ES u e n g P ts σ0 (uI σ 2 5 (nI w)) := by
  have hg := h.1.hg.2.1
  exact ⟨h.1.wI (by omega), ⟨w, hw, gI_s⟩, h.2.2.wI (by omega)⟩
theorem ES.out (h : ES u e n g P ts σ0 σ) (v : Int32) : ∃ σ', M_X3_letOut σ v = some σ' ∧ ES u e n g P ts σ0 σ' := by
  obtain ⟨w, w1, w2⟩ := h.2.1
  unfold M_X3_letOut
  obtain ⟨x, h1, h2⟩ := ow_iter (body := fun s : Wd => M_X3_letOut_L0 v s) (Q := fun x => ES u e n g P ts σ0 x) (fun k s => ES u e n g P ts σ0 s ∧ k ≤ 32 ∧ gI s 2 5 = nI k) (fun k s ⟨hC, hk, h5⟩ => by
    show ow (M_X3_letOut_L0 v s) _
    unfold M_X3_letOut_L0
    rw [h5]
    by_cases h0 : k = 0
    · subst h0
      rw [if_pos (by decide)]
      exact ow_some.mpr hC
    · obtain ⟨r, hr⟩ := rank_some (gI s 5 (k - 1))
      rw [if_neg (show ¬ nI k ≤ 0 from fun z => by have := (nI_leI (b := 0) (by omega) (by omega)).mp z; omega), nI_p1 (by omega), chk_pos ((ib_nI (by omega)).mpr (by omega)), ix_nI (by omega), hr, bnd1_some]
      by_cases hrv : r < v
      · rw [if_pos hrv]; exact ow_some.mpr hC
      · rw [if_neg hrv]
        simp only [lt_eq]
        have hC2 := hC.w5 (w := k - 1) (by omega)
        have hg := hC2.1.hg.1
        obtain ⟨σ', t1, t2, t3⟩ := hC2.add 5 (gI (uI s 2 5 (nI (k - 1))) 5 (k - 1))
        rw [hg, chk_pos hC2.1.hg.2.1, show gI (uI s 2 5 (nI (k - 1))) 2 5 = nI (k - 1) from gI_s, chk_pos ((ib_nI (by omega)).mpr (by omega)), ix_nI (by omega), t1, bnd1_some]
        exact ow_some.mpr ⟨k - 1, by omega, t2, by omega, t3.trans gI_s⟩) FU w σ (FU_big (by omega)) ⟨h, w1, w2⟩
  rw [show iter (fun s : Wd => M_X3_letOut_L0 v s) FU σ = some x from h1, bnd1_some]
  exact ⟨x, rfl, h2⟩
theorem ES.put (h : ES u e n g P ts σ0 σ) (v : Int32) : ∃ σ', M_X3_putOff σ v = some σ' ∧ ES u e n g P ts σ0 σ' := by
  obtain ⟨w, w1, w2⟩ := h.2.1
  have hg := h.1.hg.2.1
  unfold M_X3_putOff
  rw [w2]
  by_cases h0 : 32 ≤ w
  · rw [if_pos (show (32 : Int32) ≤ nI w from (nI_leI (a := 32) (by omega) (by omega)).mpr h0)]
    exact ⟨_, rfl, h⟩
  · rw [if_neg (show ¬ (32 : Int32) ≤ nI w from fun z => h0 ((nI_leI (a := 32) (by omega) (by omega)).mp z)), chk_pos ((ib_nI (by omega)).mpr (by omega)), ix_nI (by omega)]
    simp only [lt_eq]
    rw [show gI (uI σ 5 w v) 2 5 = nI w by rw [gI_uI, if_neg (by omega)]; exact w2, nI_1]
    exact ⟨_, rfl, (h.1.wI (by omega)).wI (by omega), ⟨w + 1, by omega, gI_s⟩, (h.2.2.wI (by omega)).wI (by omega)⟩
theorem ES.close (h : ES u e n g P ts σ0 σ) : ∃ σ', M_X3_closeNest σ = some σ' ∧ ES u e n g P ts σ0 σ' := by
  obtain ⟨σ1, e1, h1⟩ := h.out 1
  obtain ⟨w, w1, w2⟩ := h1.2.1
  unfold M_X3_closeNest
  rw [e1, bnd1_some, w2]
  by_cases h0 : w = 0
  · subst h0
    rw [if_pos (by decide)]
    exact ⟨_, rfl, h1⟩
  · rw [if_neg (show ¬ nI w ≤ 0 from fun z => by have := (nI_leI (b := 0) (by omega) (by omega)).mp z; omega), nI_p1 (by omega)]
    exact ⟨_, rfl, h1.w5 (by omega)⟩
theorem ES.take {k v : Nat} (h : ES u e n g P ((k, v) :: ts) σ0 σ) (hk : k ≠ 0) : ∃ σ', M_X3_take σ (nI (ck k)) = some σ' ∧ ES u e n g (P + 1) ts σ0 σ' := by
  obtain ⟨a, b⟩ := h.1.take hk
  obtain ⟨w, w1, w2⟩ := h.2.1
  exact ⟨_, a, b, ⟨w, w1, by rw [gI_uI, if_neg (by omega)]; exact w2⟩, h.2.2.wI (by omega)⟩
/-- a unit: a step, then passed -/
theorem ES.unit {k v nc m : Nat} (h : ES u e n g P ((k, v) :: ts) σ0 σ) (hk : k = 1 ∨ k = 2 ∨ k = 28 ∨ k = 29 ∨ k = 30) (hN : NM nc m σ0) (hm : nc ≤ m) (hv : k = 1 → ∃ j, j < nc ∧ v = 82 + j) : ∃ σ' σ'' r, M_X3_addUnit σ (nI (ck k)) = some σ' ∧ M_X3_isValue (nI (ck k)) = some r ∧ M_X3_take σ' (if r = 0 then 2 else nI (ck k)) = some σ'' ∧ ES u e n g (P + 1) ts σ0 σ'' := by
  obtain ⟨q1, q2, q3, q4, q5, q6, q7⟩ := h.1.now
  have hg := h.1.hg
  have hK := isv_t ⟨k, VK_lt q4⟩ q4
  have hK : M_X3_isValue (nI (ck k)) = some (boI (decide (k = 2 ∨ k = 28 ∨ k = 29 ∨ k = 30))) := hK
  unfold M_X3_addUnit
  rw [hg.1]
  rcases hk with rfl | rfl | rfl | rfl | rfl
  · obtain ⟨j, j1, rfl⟩ := hv rfl
    have hc := NM.cell (hN.ke h.2.2 hg.2.1) h.1 j1 hm
    obtain ⟨σ', e1, h1, _⟩ := h.add 1 (nI j)
    obtain ⟨σ'', e2, h2⟩ := h1.take (by decide)
    rw [if_neg (show ¬ nI (ck 1) = 3 by decide), if_neg (show ¬ nI (ck 1) = 108 by decide), if_neg (show ¬ nI (ck 1) = 109 by decide), if_neg (show ¬ nI (ck 1) = 110 by decide), chk_pos hg.2.1, hc, bnd2_some, e1, bnd1_some]
    exact ⟨σ', σ'', _, rfl, hK, e2, h2⟩
  · obtain ⟨σ', e1, h1, _⟩ := h.add 0 (nI v)
    obtain ⟨σ'', e2, h2⟩ := h1.take (by decide)
    rw [if_pos (show nI (ck 2) = 3 from rfl), chk_pos hg.2.1, q6 rfl, bnd1_some, e1, bnd1_some]
    exact ⟨σ', σ'', _, rfl, hK, e2, h2⟩
  · obtain ⟨σ', e1, h1, _⟩ := h.add 2 0
    obtain ⟨σ'', e2, h2⟩ := h1.take (by decide)
    rw [if_neg (show ¬ nI (ck 28) = 3 by decide), if_pos (show nI (ck 28) = 108 from rfl), chk_pos hg.2.1, e1, bnd1_some]
    exact ⟨σ', σ'', _, rfl, hK, e2, h2⟩
  · obtain ⟨σ', e1, h1, _⟩ := h.add 3 0
    obtain ⟨σ'', e2, h2⟩ := h1.take (by decide)
    rw [if_neg (show ¬ nI (ck 29) = 3 by decide), if_neg (show ¬ nI (ck 29) = 108 by decide), if_pos (show nI (ck 29) = 109 from rfl), chk_pos hg.2.1, e1, bnd1_some]
    exact ⟨σ', σ'', _, rfl, hK, e2, h2⟩
  · obtain ⟨σ', e1, h1, _⟩ := h.add 4 0
    obtain ⟨σ'', e2, h2⟩ := h1.take (by decide)
    rw [if_neg (show ¬ nI (ck 30) = 3 by decide), if_neg (show ¬ nI (ck 30) = 108 by decide), if_neg (show ¬ nI (ck 30) = 109 by decide), if_pos (show nI (ck 30) = 110 from rfl), chk_pos hg.2.1, e1, bnd1_some]
    exact ⟨σ', σ'', _, rfl, hK, e2, h2⟩
end ESs
/-- tokens that are an expression's: d parentheses are not closed, un: a unit is wanted -/
def xok (nc : Nat) : List (Nat × Nat) → Nat → Nat → Prop
  | [], d, un => d = 0 ∧ un = 0
  | (k, v) :: ts, d, un => (un = 1 ∧ k = 6 ∧ d < 6 ∧ xok nc ts (d + 1) 1) ∨ (un = 1 ∧ (k = 1 ∨ k = 2 ∨ k = 28 ∨ k = 29 ∨ k = 30) ∧ (k = 1 → ∃ j, j < nc ∧ v = 82 + j) ∧ xok nc ts d 0) ∨ (un = 0 ∧ (k = 8 ∨ k = 9 ∨ k = 10 ∨ k = 15) ∧ xok nc ts d 1) ∨ (un = 0 ∧ k = 7 ∧ 0 < d ∧ xok nc ts (d - 1) 0)
theorem x_un {nc k v d : Nat} {ts : List (Nat × Nat)} (hk : k = 2 ∨ k = 28 ∨ k = 29 ∨ k = 30) (h : xok nc ts d 0) : xok nc ((k, v) :: ts) d 1 := Or.inr (Or.inl ⟨rfl, by omega, fun z => by omega, h⟩)
theorem x_nm {nc k d : Nat} {ts : List (Nat × Nat)} (hk : k < nc) (h : xok nc ts d 0) : xok nc ((1, 82 + k) :: ts) d 1 := Or.inr (Or.inl ⟨rfl, Or.inl rfl, fun _ => ⟨k, hk, rfl⟩, h⟩)
theorem x_op {nc k v d : Nat} {ts : List (Nat × Nat)} (hk : k = 8 ∨ k = 9 ∨ k = 10 ∨ k = 15) (h : xok nc ts d 1) : xok nc ((k, v) :: ts) d 0 := Or.inr (Or.inr (Or.inl ⟨rfl, hk, h⟩))
theorem xok_tm {nc t d k : Nat} (ht : t < 8) (hk : k < nc) : xok nc (tmK t d k) 0 1 := by
  have nil : xok nc [] 0 0 := ⟨rfl, rfl⟩
  rcases (show t = 0 ∨ t = 1 ∨ t = 2 ∨ t = 3 ∨ t = 4 ∨ t = 5 ∨ t = 6 ∨ t = 7 by omega) with rfl | rfl | rfl | rfl | rfl | rfl | rfl | rfl
  · exact x_un (by decide) nil
  · exact x_nm hk nil
  · exact x_nm hk (x_op (by decide) (x_un (by decide) (x_op (by decide) (x_un (by decide) nil))))
  · exact x_un (by decide) (x_op (by decide) (x_un (by decide) (x_op (by decide) (x_un (by decide) nil))))
  · exact x_un (by decide) (x_op (by decide) (Or.inl ⟨rfl, rfl, by decide, x_nm hk (x_op (by decide) (x_un (by decide) (Or.inr (Or.inr (Or.inr ⟨rfl, rfl, by decide, nil⟩)))))⟩))
  · exact x_nm hk (x_op (by decide) (x_un (by decide) (x_op (by decide) (x_un (by decide) (x_op (by decide) (x_un (by decide) nil))))))
  · exact x_un (by decide) (x_op (by decide) (x_un (by decide) (x_op (by decide) (x_nm hk nil))))
  · exact x_nm hk (x_op (by decide) (x_un (by decide) (x_op (by decide) (x_un (by decide) nil))))
section ESr
variable {u : Nat → Nat} {e n g : Nat} {σ0 : Wd}
theorem ES.run {nc m k v : Nat} {ks : List (Nat × Nat)} {v1 : Int32} (hN : NM nc m σ0) (hm : nc ≤ m) (hk : ¬ (k = 8 ∨ k = 9 ∨ k = 10 ∨ k = 15)) : ∀ (ts : List (Nat × Nat)) (P d un v5 nF : Nat) (σ : Wd), xok nc ts d un → ES u e n g P (ts ++ (k, v) :: ks) σ0 σ → d ≤ 6 → v5 ≤ P → ts.length + 2 ≤ nF → ∃ σ', iter (fun s : Int32 × Int32 × Int32 × Int32 × Wd => M_X3_takeExpression_L31 v1 s.1 s.2.1 s.2.2.1 s.2.2.2.1 s.2.2.2.2) nF (nI d, nI un, 1, nI v5, σ) = some σ' ∧ ES u e n g (P + ts.length) ((k, v) :: ks) σ0 σ' := by
  intro ts
  induction ts with
  | nil =>
    intro P d un v5 nF σ hx h hd hv hn
    obtain ⟨rfl, rfl⟩ : d = 0 ∧ un = 0 := hx
    have h : ES u e n g P ((k, v) :: ks) σ0 σ := h
    obtain ⟨q1, q2, q3, q4, _⟩ := h.1.now
    have hK := isop_t ⟨k, VK_lt q4⟩ q4
    have hK : M_X3_isOperator (nI (ck k)) = some (boI (decide (k = 8 ∨ k = 9 ∨ k = 10 ∨ k = 15))) := hK
    rw [decide_eq_false hk] at hK
    obtain ⟨n', rfl⟩ : ∃ n', nF = n' + 1 + 1 := ⟨nF - 2, by have := hn; simp only [List.length_nil] at this; omega⟩
    have s1 : M_X3_takeExpression_L31 v1 (nI 0) (nI 0) 1 (nI v5) σ = some (.inl (nI 0, nI 0, 0, nI (v5 + 1), σ)) := by
      unfold M_X3_takeExpression_L31 M_X3_takeExpression_J100
      rw [if_neg (show ¬ (400 : Int32) < nI v5 from fun z => by have := (nI_ltI (a := 400) (by omega) (by omega)).mp z; omega), if_neg n10, h.1.hg.2.2.1, if_neg z00, q2, bnd1_some, if_pos (show nI 0 = 0 from rfl), if_pos (show nI 0 = 0 from rfl), hK, bnd1_some, if_pos (show boI false = 0 from rfl), if_pos (show nI 0 ≤ 0 by decide), lt_eq, nI_1]
    have s2 : M_X3_takeExpression_L31 v1 (nI 0) (nI 0) 0 (nI (v5 + 1)) σ = some (.inr σ) := by
      unfold M_X3_takeExpression_L31
      by_cases q : (400 : Int32) < nI (v5 + 1)
      · rw [if_pos q]
      · rw [if_neg q, if_pos rfl]
    refine ⟨σ, ?_, h⟩
    rw [it_s (s' := (nI 0, nI 0, 0, nI (v5 + 1), σ)) s1]
    exact it_x s2
  | cons t ts ih =>
    intro P d un v5 nF σ hx h hd hv hn
    obtain ⟨k1, v2⟩ := t
    have h : ES u e n g P ((k1, v2) :: (ts ++ (k, v) :: ks)) σ0 σ := h
    obtain ⟨q1, q2, q3, q4, _⟩ := h.1.now
    have hK := isop_t ⟨k1, VK_lt q4⟩ q4
    have hK : M_X3_isOperator (nI (ck k1)) = some (boI (decide (k1 = 8 ∨ k1 = 9 ∨ k1 = 10 ∨ k1 = 15))) := hK
    rw [List.length_cons] at hn
    obtain ⟨n', rfl⟩ : ∃ n', nF = n' + 1 := ⟨nF - 1, by omega⟩
    have go : ∀ {d' un' : Nat} {σ' : Wd}, M_X3_takeExpression_L31 v1 (nI d) (nI un) 1 (nI v5) σ = some (.inl (nI d', nI un', 1, nI (v5 + 1), σ')) → xok nc ts d' un' → d' ≤ 6 → ES u e n g (P + 1) (ts ++ (k, v) :: ks) σ0 σ' → ∃ σ', iter (fun s : Int32 × Int32 × Int32 × Int32 × Wd => M_X3_takeExpression_L31 v1 s.1 s.2.1 s.2.2.1 s.2.2.2.1 s.2.2.2.2) (n' + 1) (nI d, nI un, 1, nI v5, σ) = some σ' ∧ ES u e n g (P + ((k1, v2) :: ts).length) ((k, v) :: ks) σ0 σ' := fun {d' un' σ'} s1 x1 hd' h' => by
      obtain ⟨σ2, e2, h2⟩ := ih (P + 1) d' un' (v5 + 1) n' σ' x1 h' hd' (by omega) (by omega)
      refine ⟨σ2, ?_, ?_⟩
      · rw [it_s (s' := (nI d', nI un', 1, nI (v5 + 1), σ')) s1]
        exact e2
      · rw [List.length_cons, show P + (ts.length + 1) = P + 1 + ts.length by omega]
        exact h2
    have st : M_X3_takeExpression_L31 v1 (nI d) (nI un) 1 (nI v5) σ = if nI un = 0 then (M_X3_takeExpression_J100 σ v1 (nI d) (nI un) 1 (nI v5) (nI (ck k1))) else (if nI (ck k1) ≠ (40 : Int32) then (M_X3_takeExpression_J100 σ v1 (nI d) (nI un) 1 (nI v5) (nI (ck k1))) else (if nI d < (6 : Int32) then (M_X3_takeExpression_J82 σ v1 (nI d) (nI un) 1 (nI v5) (nI (ck k1))) else (bnd1 (M_X3_fail σ (2 : Int32)) fun s_79 => M_X3_takeExpression_J82 s_79 v1 (nI d) (nI un) 1 (nI v5) (nI (ck k1))))) := by
      unfold M_X3_takeExpression_L31
      rw [if_neg (show ¬ (400 : Int32) < nI v5 from fun z => by have := (nI_ltI (a := 400) (by omega) (by omega)).mp z; omega), if_neg n10, h.1.hg.2.2.1, if_neg z00, q2, bnd1_some]
    rcases hx with ⟨rfl, rfl, x1, x2⟩ | ⟨rfl, x1, x2, x3⟩ | ⟨rfl, x1, x2⟩ | ⟨rfl, rfl, x1, x2⟩
    · obtain ⟨σ1, e1, h1⟩ := h.put (nI (ck 6))
      obtain ⟨σ2, e2, h2⟩ := h1.take (by decide)
      refine go (d' := d + 1) (un' := 1) ?_ x2 (by omega) h2
      rw [st, if_neg (show ¬ nI 1 = 0 by decide), if_neg (show ¬ nI (ck 6) ≠ 40 from fun z => z rfl), if_pos (show nI d < 6 from (nI_ltI (b := 6) (by omega) (by omega)).mpr x1)]
      unfold M_X3_takeExpression_J82
      rw [lt_eq, e1, bnd1_some, e2, bnd1_some, lt_eq, nI_1, nI_1]
    · obtain ⟨σ1, σ2, r, e1, e2, e3, h2⟩ := h.unit x1 hN hm x2
      refine go (d' := d) (un' := 0) ?_ x3 hd h2
      have n40 : nI (ck k1) ≠ 40 := by
        rcases x1 with rfl | rfl | rfl | rfl | rfl <;> decide
      rw [st, if_neg (show ¬ nI 1 = 0 by decide), if_pos n40]
      unfold M_X3_takeExpression_J100 M_X3_takeExpression_J125
      rw [if_neg (show ¬ nI 1 = 0 by decide), e1, bnd1_some, e2, bnd1_some]
      by_cases z : r = 0
      · rw [if_pos z] at e3 ⊢
        rw [e3, bnd1_some, lt_eq, nI_1]
        rfl
      · rw [if_neg z] at e3 ⊢
        rw [e3, bnd1_some, lt_eq, nI_1]
        rfl
    · obtain ⟨r, hr⟩ := rank_some (nI (ck k1))
      obtain ⟨σ1, e1, h1⟩ := h.out r
      obtain ⟨σ2, e2, h2⟩ := h1.put (nI (ck k1))
      obtain ⟨σ3, e3, h3⟩ := h2.take (by omega)
      refine go (d' := d) (un' := 1) ?_ x2 hd h3
      rw [decide_eq_true x1] at hK
      rw [st, if_pos (show nI 0 = 0 from rfl)]
      unfold M_X3_takeExpression_J100
      rw [if_pos (show nI 0 = 0 from rfl), hK, bnd1_some, if_neg (show ¬ boI true = 0 by decide), hr, bnd1_some, e1, bnd1_some, e2, bnd1_some, e3, bnd1_some, lt_eq, nI_1]
      rfl
    · obtain ⟨σ1, e1, h1⟩ := h.close
      obtain ⟨σ2, e2, h2⟩ := h1.take (by decide)
      refine go (d' := d - 1) (un' := 0) ?_ x2 (by omega) h2
      rw [decide_eq_false (show ¬ ((7 : Nat) = 8 ∨ 7 = 9 ∨ 7 = 10 ∨ 7 = 15) by decide)] at hK
      have em : nI d + (-1 : Int32) = nI (d - 1) := by
        rw [← nI_p1 (n := d) (by omega)]
        exact (Int32.sub_eq_add_neg (nI d) 1).symm
      rw [st, if_pos (show nI 0 = 0 from rfl)]
      unfold M_X3_takeExpression_J100
      rw [if_pos (show nI 0 = 0 from rfl), hK, bnd1_some, if_pos (show boI false = 0 from rfl), if_neg (show ¬ nI d ≤ 0 from fun z => by have := (nI_leI (b := 0) (by omega) (by omega)).mp z; omega), lt_eq, em, e1, bnd1_some, show M_X3_take σ1 41 = _ from e2, bnd1_some, lt_eq, nI_1]
/-- an expression, whole -/
theorem PS.expr {nc m k v P w : Nat} {ts ks : List (Nat × Nat)} {σ : Wd} (h : PS u e n g P (ts ++ (k, v) :: ks) σ) (hN : NM nc m σ) (hm : nc ≤ m) (hk : ¬ (k = 8 ∨ k = 9 ∨ k = 10 ∨ k = 15)) (hx : xok nc ts 0 1) (hw : w < 24) : ∃ σ', M_X3_takeExpression σ (nI w) = some σ' ∧ PS u e n g (P + ts.length) ((k, v) :: ks) σ' ∧ KE g σ σ' := by
  have hg := h.hg
  have cw : ib (nI w) 24 := (ib_nI (by omega)).mpr hw
  unfold M_X3_takeExpression
  rw [hg.1, chk_pos hg.2.1, chk_pos hg.2.1, chk_pos cw, ix_nI (by omega)]
  simp only [lt_eq]
  generalize hv : gI σ g 13 = x
  have h1 : ES u e n g P (ts ++ (k, v) :: ks) σ (uI (uI σ (g + 5) w x) 2 5 0) := ⟨(h.wI (by omega)).wI (by omega), ⟨0, by decide, gI_s⟩, (KE.refl.wI (by omega)).wI (by omega)⟩
  have hb := h.1.2
  rw [List.length_append, List.length_cons] at hb
  obtain ⟨σ1, e1, h2⟩ := ES.run (v1 := nI w) hN hm hk ts P 0 1 0 FU _ hx h1 (by omega) (by omega) (by have := FU_big (n := ts.length + 2) (by omega); omega)
  obtain ⟨σ2, e2, h3⟩ := h2.out 1
  have e1 : iter (fun s : Int32 × Int32 × Int32 × Int32 × Wd => M_X3_takeExpression_L31 (nI w) s.1 s.2.1 s.2.2.1 s.2.2.2.1 s.2.2.2.2) FU ((0 : Int32), (1 : Int32), (1 : Int32), (0 : Int32), uI (uI σ (g + 5) w x) 2 5 0) = some σ1 := e1
  rw [e1, bnd1_some]
  show ∃ σ', M_X3_takeExpression_J196 σ1 (nI w) = some σ' ∧ _
  unfold M_X3_takeExpression_J196
  have hg3 := h3.1.hg
  rw [e2, bnd1_some, hg3.1, chk_pos hg3.2.1, chk_pos hg3.2.1, chk_pos cw, ix_nI (by omega)]
  exact ⟨_, rfl, h3.1.wI (by omega), h3.2.2.wI (by omega)⟩
end ESr
