/-! the model cuts -/
def ByM (u : Nat → Nat) (e : Nat) (τ : Wd) : Prop := e ≤ 2000 ∧ gI τ 0 4 = nI e ∧ (∀ i, i < e → u i < 256 ∧ gI τ 2 i &&& 255 = nI (u i)) ∧ RKeys τ
def uz (u : Nat → Nat) (e i : Nat) : Nat := if i < e then u i else 0
def TG (τ τ' : Wd) : Prop := (∀ c, c ≠ 0 → c ≠ 3 → c ≠ 4 → c ≠ 5 → τ'.1 c = τ.1 c) ∧ (∀ c, c ≠ 6 → τ'.2.1 c = τ.2.1 c) ∧ τ'.2.2 = τ.2.2 ∧ (∀ j, j ≠ 10 → gI τ' 0 j = gI τ 0 j)
theorem TG.refl {τ : Wd} : TG τ τ := ⟨fun _ _ _ _ _ => rfl, fun _ _ => rfl, rfl, fun _ _ => rfl⟩
theorem TG.wI {τ τ' : Wd} {c k : Nat} {v : Int32} (hc : (c = 0 ∧ k = 10) ∨ c = 3 ∨ c = 4 ∨ c = 5) (h : TG τ τ') : TG τ (uI τ' c k v) := ⟨fun d a b f g => by
  have : (uI τ' c k v).1 d = τ'.1 d := by
    funext j
    show gI (uI τ' c k v) d j = gI τ' d j
    rw [gI_uI, if_neg (fun z => by omega)]
  rw [this]; exact h.1 d a b f g, h.2.1, h.2.2.1, fun j hj => by rw [gI_uI, if_neg (fun z => by omega)]; exact h.2.2.2 j hj⟩
theorem TG.wL {τ τ' : Wd} {k : Nat} {v : Int64} (h : TG τ τ') : TG τ (uL τ' 6 k v) := ⟨h.1, fun d a => by
  have : (uL τ' 6 k v).2.1 d = τ'.2.1 d := by
    funext j
    show gL (uL τ' 6 k v) d j = gL τ' d j
    rw [gL_uL, if_neg (fun z => a z.1)]
  rw [this]; exact h.2.1 d a, h.2.2⟩
section CM
variable {u : Nat → Nat} {e k p : Nat} {τ : Wd}
theorem ByM_TG {τ' : Wd} (h : ByM u e τ) (hf : TG τ τ') : ByM u e τ' := ⟨h.1, (hf.2.2.2 4 (by decide)).trans h.2.1, fun i hi => ⟨(h.2.2.1 i hi).1, by rw [show gI τ' 2 i = gI τ 2 i from congrFun (hf.1 2 (by decide) (by decide) (by decide) (by decide)) i]; exact (h.2.2.1 i hi).2⟩, RKeys_eq (hf.2.1 7 (by decide)) h.2.2.2⟩
theorem m_byte (h : ByM u e τ) {i : Nat} (hi : i < 2 ^ 30) : M_X9_byteAt τ (nI i) = some (nI (uz u e i)) ∧ uz u e i < 256 := by
  have he := h.1
  unfold M_X9_byteAt uz
  rw [h.2.1]
  by_cases h0 : i < e
  · rw [if_neg (fun z => by have := (nI_leI (by omega) (by omega)).mp z; omega), chk_pos ((ib_nI (by omega)).mpr (by omega)), ix_nI (by omega), (h.2.2.1 i h0).2, if_pos h0]
    exact ⟨rfl, (h.2.2.1 i h0).1⟩
  · rw [if_pos ((nI_leI (by omega) (by omega)).mpr (by omega)), if_neg h0]
    exact ⟨rfl, by decide⟩
theorem lN_27 {m b : Nat} : (27 : Int64) * lN m + lN b = lN (27 * m + b) := by
  apply Int64.toBitVec_inj.mp
  apply BitVec.eq_of_toNat_eq
  rw [Int64.toBitVec_add, BitVec.toNat_add, Int64.toBitVec_mul, BitVec.toNat_mul]
  show (27 * (m % 2 ^ 64) % 2 ^ 64 + b % 2 ^ 64) % 2 ^ 64 = (27 * m + b) % 2 ^ 64
  omega
theorem m_word (hB : ByM u e τ) (hp : p < e) : iter (fun s : Int32 × Int64 => M_X9_cut_L85 τ (nI p) s.1 s.2) FU ((0 : Int32), (0 : Int64)) = some (nI (rn (fun i => isLn (u i)) e p - p), lN (wM u p (min (rn (fun i => isLn (u i)) e p - p) 8))) := by
  have he := hB.1
  have L := rn_loop (body := fun s : Int32 × Int64 => M_X9_cut_L85 τ (nI p) s.1 s.2) (st := fun q => (nI (q - p), lN (wM u p (min (q - p) 8)))) (fin := fun q => (nI (q - p), lN (wM u p (min (q - p) 8)))) (P := fun i => isLn (u i)) (e := e) (p0 := p) (fun q hq hqe => by
    show M_X9_cut_L85 τ (nI p) (nI (q - p)) (lN (wM u p (min (q - p) 8))) = _
    unfold M_X9_cut_L85
    obtain ⟨b1, b2⟩ := m_byte hB (i := q) (by omega)
    have tl : M_X9_isLetter (nI (uz u e q)) = some (boI (isLn (uz u e q))) := (tb_cL ⟨_, b2⟩).2.2.1
    rw [nI_add, show p + (q - p) = q by omega, b1, bnd1_some, tl, bnd1_some, nI_1]
    by_cases h0 : q < e ∧ isLn (u q) = true
    · have hu : uz u e q = u q := if_pos h0.1
      have hb := isLn_bd.mp h0.2
      rw [if_pos h0, hu, if_neg (fun z => by rw [(boI_eq _).mp z] at h0; exact Bool.noConfusion h0.2)]
      by_cases h8 : 8 ≤ q - p
      · rw [if_pos (show (8 : Int32) ≤ nI (q - p) from (nI_leI (a := 8) (by omega) (by omega)).mpr h8), show q + 1 - p = q - p + 1 by omega, show min (q - p + 1) 8 = min (q - p) 8 by omega]
        rfl
      · rw [if_neg (show ¬ (8 : Int32) ≤ nI (q - p) from fun z => h8 ((nI_leI (a := 8) (by omega) (by omega)).mp z)), bnd1_some]
        unfold M_X9_appends
        rw [if_pos (nI_ne0 (by omega) (by omega)), show (97 : Int32) = nI 97 from rfl, nI_nat hb.1, nI_1, lN_I (by omega), bnd1_some, show q + 1 - p = q - p + 1 by omega, show min (q - p + 1) 8 = q - p + 1 by omega, show min (q - p) 8 = q - p by omega]
        rw [lN_27]
        show some (Sum.inl (nI (q - p + 1), lN (27 * wM u p (q - p) + (u q - 97 + 1)))) = some (Sum.inl (nI (q - p + 1), lN (27 * wM u p (q - p) + (u (p + (q - p)) - 96))))
        rw [show p + (q - p) = q by omega, show u q - 97 + 1 = u q - 96 by omega]
    · have hz : isLn (uz u e q) = false := by
        unfold uz
        by_cases h1 : q < e
        · rw [if_pos h1]; exact Bool.eq_false_iff.mpr (fun z => h0 ⟨h1, z⟩)
        · rw [if_neg h1]; rfl
      rw [if_neg h0, hz, if_pos (by rfl)]) (e - p) p FU (Nat.le_refl _) (by omega) rfl (FU_big (by omega))
  have L : iter (fun s : Int32 × Int64 => M_X9_cut_L85 τ (nI p) s.1 s.2) FU (nI (p - p), lN (wM u p (min (p - p) 8))) = _ := L
  rw [Nat.sub_self] at L
  exact L
theorem m_int (hB : ByM u e τ) (hp : p < e) : iter (fun s : Int32 × Int32 => M_X9_cut_L208 τ (nI p) s.1 s.2) FU ((0 : Int32), (0 : Int32)) = some (nI (rn (fun i => isDn (u i)) e p - p), nI (dM u p (min (rn (fun i => isDn (u i)) e p - p) 4))) := by
  have he := hB.1
  have L := rn_loop (body := fun s : Int32 × Int32 => M_X9_cut_L208 τ (nI p) s.1 s.2) (st := fun q => (nI (q - p), nI (dM u p (min (q - p) 4)))) (fin := fun q => (nI (q - p), nI (dM u p (min (q - p) 4)))) (P := fun i => isDn (u i)) (e := e) (p0 := p) (fun q hq hqe => by
    show M_X9_cut_L208 τ (nI p) (nI (q - p)) (nI (dM u p (min (q - p) 4))) = _
    unfold M_X9_cut_L208
    obtain ⟨b1, b2⟩ := m_byte hB (i := q) (by omega)
    have tl : M_X9_isDigit (nI (uz u e q)) = some (boI (isDn (uz u e q))) := (tb_cL ⟨_, b2⟩).2.2.2
    rw [nI_add, show p + (q - p) = q by omega, b1, bnd1_some, tl, bnd1_some, nI_1]
    by_cases h0 : q < e ∧ isDn (u q) = true
    · have hu : uz u e q = u q := if_pos h0.1
      have hb := isDn_bd.mp h0.2
      rw [if_pos h0, hu, if_neg (fun z => by rw [(boI_eq _).mp z] at h0; exact Bool.noConfusion h0.2)]
      by_cases h8 : 4 ≤ q - p
      · rw [if_pos (show (4 : Int32) ≤ nI (q - p) from (nI_leI (a := 4) (by omega) (by omega)).mpr h8), show q + 1 - p = q - p + 1 by omega, show min (q - p + 1) 4 = min (q - p) 4 by omega]
        rfl
      · rw [if_neg (show ¬ (4 : Int32) ≤ nI (q - p) from fun z => h8 ((nI_leI (a := 4) (by omega) (by omega)).mp z)), bnd1_some, show q + 1 - p = q - p + 1 by omega, show min (q - p + 1) 4 = q - p + 1 by omega, show min (q - p) 4 = q - p by omega]
        simp only [lt_eq]
        show some (Sum.inl (nI (q - p + 1), 10 * nI (dM u p (q - p)) + nI (u q) - 48)) = some (Sum.inl (nI (q - p + 1), nI (10 * dM u p (q - p) + (u (p + (q - p)) - 48))))
        rw [show p + (q - p) = q by omega, show (10 : Int32) * nI (dM u p (q - p)) = nI (10 * dM u p (q - p)) from pk_mul 10 _, nI_add, show (48 : Int32) = nI 48 from rfl, nI_nat (show 48 ≤ 10 * dM u p (q - p) + u q by omega), show 10 * dM u p (q - p) + u q - 48 = 10 * dM u p (q - p) + (u q - 48) by omega]
    · have hz : isDn (uz u e q) = false := by
        unfold uz
        by_cases h1 : q < e
        · rw [if_pos h1]; exact Bool.eq_false_iff.mpr (fun z => h0 ⟨h1, z⟩)
        · rw [if_neg h1]; rfl
      rw [if_neg h0, hz, if_pos (by rfl)]) (e - p) p FU (Nat.le_refl _) (by omega) rfl (FU_big (by omega))
  have L : iter (fun s : Int32 × Int32 => M_X9_cut_L208 τ (nI p) s.1 s.2) FU (nI (p - p), nI (dM u p (min (p - p) 4))) = _ := L
  rw [Nat.sub_self] at L
  exact L
theorem m_kw (hB : ByM u e τ) {v1 v3 : Int32} {m : Nat} (hm : m < 27 ^ 8) : iter (fun s : Int32 × Int32 => M_X9_cut_L146 τ v1 v3 (lN m) s.1 s.2) FU ((1 : Int32), (0 : Int32)) = some (nI (kwF m 11)) := by
  obtain ⟨x, h1, h2⟩ := ow_for (body := fun s : Int32 × Int32 => M_X9_cut_L146 τ v1 v3 (lN m) s.1 s.2) (Q := fun x => x = nI (kwF m 11)) (fun i s => s = (nI (kwF m i), nI i)) 11 (FU_big (by omega)) (fun i s hi hs => by
    subst hs
    show ow (M_X9_cut_L146 τ v1 v3 (lN m) (nI (kwF m i)) (nI i)) _
    unfold M_X9_cut_L146
    have e1 : kwF m (i + 1) = if (keyv i).toBitVec.toNat = m then 20 + i else kwF m i := rfl
    rw [if_neg (fun z => by have := (nI_leI (a := 11) (by omega) (by omega)).mp z; omega), chk_pos ((ib_nI (by omega)).mpr hi), ix_nI (by omega), hB.2.2.2 i hi]
    simp only [lt_eq]
    rw [nI_1]
    have hq : (lg_cmp (keyv i) (lN m) ≠ 0 ↔ (keyv i).toBitVec.toNat ≠ m) := by
      refine not_congr ((lg_cmp_eq _ _).trans ?_)
      constructor
      · intro z
        rw [z]
        show m % 2 ^ 64 = m
        omega
      · intro z
        rw [← z]
        exact lN_of _
    by_cases hk : (keyv i).toBitVec.toNat = m
    · rw [if_neg (fun z => hq.mp z hk)]
      refine ow_some.mpr ?_
      show _ = _
      rw [e1, if_pos hk, show (20 : Int32) = nI 20 from rfl, nI_add]
    · rw [if_pos (hq.mpr hk)]
      refine ow_some.mpr ?_
      show _ = _
      rw [e1, if_neg hk]) (fun s hs => by
    subst hs
    show ow (M_X9_cut_L146 τ v1 v3 (lN m) (nI (kwF m 11)) (nI 11)) _
    unfold M_X9_cut_L146
    rw [if_pos (by decide)]
    exact ow_some.mpr rfl) 0 ((1 : Int32), (0 : Int32)) (Nat.zero_le _) rfl
  exact h1.trans (congrArg some h2)
def tokW (τ : Wd) (k : Nat) (K P n : Int32) (m : Int64) : Wd := uI (uL (uI (uI (uI τ 3 k K) 4 k P) 5 k n) 6 k m) 0 10 (nI (k + 1))
theorem m_token {K P n : Int32} {m : Int64} (h : gI τ 0 10 = nI k) (hk : k < 403) : M_X9_token τ K P n m = some (tokW τ k K P n m) := by
  unfold M_X9_token
  have g : ∀ {τ' : Wd} {c : Nat} {v : Int32}, c ≠ 0 → gI τ' 0 10 = nI k → gI (uI τ' c k v) 0 10 = nI k := fun hc h => by rw [gI_uI, if_neg (fun z => hc z.1.symm)]; exact h
  have ci : ib (nI k) 403 := (ib_nI (by omega)).mpr hk
  simp only [lt_eq]
  have h1 := g (c := 3) (v := K) (by decide) h
  have h2 := g (c := 4) (v := P) (by decide) h1
  have h3 := g (c := 5) (v := n) (by decide) h2
  have h4 : gI (uL (uI (uI (uI τ 3 k K) 4 k P) 5 k n) 6 k m) 0 10 = nI k := h3
  rw [h, chk_pos ci, ix_nI (by omega), h1, chk_pos ci, ix_nI (by omega), h2, chk_pos ci, ix_nI (by omega), h3, chk_pos ci, ix_nI (by omega), h4, nI_1]
  rfl
def sgm (v2 : Int32) : Int32 := if v2 = 60 then 13 else if v2 = 47 then 15 else if v2 = 42 then 10 else if v2 = 45 then 9 else if v2 = 43 then 8 else if v2 = 41 then 7 else if v2 = 40 then 6 else if v2 = 61 then 5 else if v2 = 59 then 4 else 3
theorem sgm_t : ∀ v : Fin 256, sgm (nI v.val) = nI (sgk v.val) := by decide +kernel
theorem m_sign {v1 v2 v3 : Int32} : M_X9_sign τ v1 v2 v3 = bnd1 (M_X9_token τ (sgm v2) v1 0 0) fun s => some ((1 : Int32), s) := by
  unfold M_X9_sign M_X9_sign_J43 M_X9_sign_J55 M_X9_sign_J65 M_X9_sign_J75 M_X9_sign_J85 M_X9_sign_J95 sgm
  by_cases a1 : v2 = 60
  · subst a1; rfl
  · by_cases a2 : v2 = 47
    · subst a2; rfl
    · by_cases a3 : v2 = 42
      · subst a3; rfl
      · by_cases a4 : v2 = 45
        · subst a4; rfl
        · by_cases a5 : v2 = 43
          · subst a5; rfl
          · by_cases a6 : v2 = 41
            · subst a6; rfl
            · by_cases a7 : v2 = 40
              · subst a7; rfl
              · by_cases a8 : v2 = 61
                · subst a8; rfl
                · by_cases a9 : v2 = 59
                  · subst a9; rfl
                  · simp only [a1, a2, a3, a4, a5, a6, a7, a8, a9, ne_eq, not_false_eq_true, if_true, if_false]
/-- what a token laid at k leaves -/
def TkM (k K V P : Nat) (τ τ' : Wd) : Prop := TG τ τ' ∧ gI τ' 0 10 = nI (k + 1) ∧ (∀ j, j ≠ k → gI τ' 3 j = gI τ 3 j ∧ gI τ' 4 j = gI τ 4 j ∧ gI τ' 5 j = gI τ 5 j ∧ gL τ' 6 j = gL τ 6 j) ∧ gI τ' 3 k = nI K ∧ gI τ' 4 k = nI P ∧ (K = 1 → gL τ' 6 k = lN V) ∧ (K = 2 → gI τ' 5 k = nI V)
theorem TkM_mk {k K V P : Nat} {n : Int32} {m : Int64} (h1 : K = 1 → m = lN V) (h2 : K = 2 → n = nI V) : TkM k K V P τ (tokW τ k (nI K) (nI P) n m) := by
  unfold tokW
  refine ⟨TG.wI (Or.inl ⟨rfl, rfl⟩) (TG.wL (TG.wI (Or.inr (Or.inr (Or.inr rfl))) (TG.wI (Or.inr (Or.inr (Or.inl rfl))) (TG.wI (Or.inr (Or.inl rfl)) TG.refl)))), gI_s, fun j hj => ⟨?_, ?_, ?_, ?_⟩, ?_, ?_, fun z => ?_, fun z => ?_⟩
  · rw [gI_uI, if_neg (by omega), gI_uL, gI_uI, if_neg (by omega), gI_uI, if_neg (by omega), gI_uI, if_neg (by omega)]
  · rw [gI_uI, if_neg (by omega), gI_uL, gI_uI, if_neg (by omega), gI_uI, if_neg (by omega), gI_uI, if_neg (by omega)]
  · rw [gI_uI, if_neg (by omega), gI_uL, gI_uI, if_neg (by omega), gI_uI, if_neg (by omega), gI_uI, if_neg (by omega)]
  · rw [gL_uI, gL_uL, if_neg (by omega)]
    rfl
  · rw [gI_uI, if_neg (by omega), gI_uL, gI_uI, if_neg (by omega), gI_uI, if_neg (by omega), gI_s]
  · rw [gI_uI, if_neg (by omega), gI_uL, gI_uI, if_neg (by omega), gI_s]
  · rw [gL_uI, gL_uL, if_pos ⟨rfl, rfl⟩]
    exact h1 z
  · rw [gI_uI, if_neg (by omega), gI_uL, gI_s]
    exact h2 z
theorem m_one (hB : ByM u e τ) (hk : gI τ 0 10 = nI k) (hk4 : k ≤ 400) (hp : p < e) (hb : isBn (u p) = false) : ∃ τ', M_X9_cut_L7 (nI p) τ = some (.inl (nI (tkQ u e p), τ')) ∧ TkM k (tkK u e p) (tkV u e p) p τ τ' := by
  have he := hB.1
  obtain ⟨b1, b2⟩ := m_byte hB (i := p) (by omega)
  have hu : uz u e p = u p := if_pos hp
  rw [hu] at b1 b2
  obtain ⟨_, _, t3, t4⟩ := tb_cL ⟨u p, b2⟩
  have t3 : M_X9_isLetter (nI (u p)) = some (boI (isLn (u p))) := t3
  have t4 : M_X9_isDigit (nI (u p)) = some (boI (isDn (u p))) := t4
  unfold isBn at hb
  rw [Bool.or_eq_false_iff, Bool.or_eq_false_iff, Bool.or_eq_false_iff, decide_eq_false_iff_not, decide_eq_false_iff_not, decide_eq_false_iff_not, decide_eq_false_iff_not] at hb
  have nn : ∀ {c : Nat}, c < 256 → u p ≠ c → nI (u p) ≠ nI c := fun hc h z => h ((nI_eq (by omega) (by omega)).mp z)
  unfold M_X9_cut_L7 tkK tkV tkQ
  rw [hk, if_neg (show ¬ (400 : Int32) < nI k from fun z => by have := (nI_ltI (a := 400) (by omega) (by omega)).mp z; omega), b1, bnd1_some, hB.2.1, if_pos ((nI_ltI (by omega) (by omega)).mpr hp), if_neg (show ¬ nI (u p) = 9 from nn (c := 9) (by decide) hb.1), if_neg (show ¬ nI (u p) = 10 from nn (c := 10) (by decide) hb.2.1), if_neg (show ¬ nI (u p) = 13 from nn (c := 13) (by decide) hb.2.2.1), if_pos (show nI (u p) ≠ 32 from nn (c := 32) (by decide) hb.2.2.2), t3, bnd1_some]
  by_cases hl : isLn (u p) = true
  · rw [if_neg (fun z => by rw [(boI_eq _).mp z] at hl; exact Bool.noConfusion hl), m_word hB hp, bnd1_some, if_pos hl, if_pos hl, if_pos hl]
    obtain ⟨r1, r2, r3, _⟩ := rn_bd (P := fun i => isLn (u i)) (e := e) (e - p) p rfl (by omega)
    generalize hq : rn (fun i => isLn (u i)) e p = q at *
    have j179 : ∀ (m : Int64) (K : Nat), (K = 1 → m = lN (wM u p (q - p))) → K ≠ 2 → ∃ τ', M_X9_cut_J179 τ (nI p) (nI (q - p)) m (nI K) = some (.inl (nI q, τ')) ∧ TkM k K (wM u p (q - p)) p τ τ' := fun m K z1 z2 => by
      unfold M_X9_cut_J179
      rw [m_token hk (by omega), bnd1_some, nI_add, show p + (q - p) = q by omega]
      exact ⟨_, rfl, TkM_mk z1 (fun z => absurd z z2)⟩
    show ∃ τ', (if nI (q - p) ≤ 8 then M_X9_cut_J135 τ (nI p) (nI (q - p)) (lN (wM u p (min (q - p) 8))) 1 else M_X9_cut_J135 τ (nI p) (nI (q - p)) (lN (wM u p (min (q - p) 8))) 3) = _ ∧ _
    unfold M_X9_cut_J135
    by_cases h8 : q - p ≤ 8
    · have hl2 : ∀ i, i < q - p → isLn (u (p + i)) = true := fun i hi => r3 (p + i) (by omega) (by omega)
      have w1 := wM_lt (u := u) (p := p) (q - p) hl2
      have w2 : wM u p (q - p) < 27 ^ 8 := Nat.lt_of_lt_of_le w1 (Nat.pow_le_pow_right (by decide) h8)
      rw [if_pos (show nI (q - p) ≤ 8 from (nI_leI (b := 8) (by omega) (by omega)).mpr h8), if_neg (show ¬ (8 : Int32) < nI (q - p) from fun z => by have := (nI_ltI (a := 8) (by omega) (by omega)).mp z; omega), if_pos h8, show min (q - p) 8 = q - p by omega, m_kw hB w2, bnd1_some]
      exact j179 _ _ (fun _ => rfl) (kwF_2 _).1
    · rw [if_neg (show ¬ nI (q - p) ≤ 8 from fun z => h8 ((nI_leI (b := 8) (by omega) (by omega)).mp z)), if_pos (show (8 : Int32) < nI (q - p) from (nI_ltI (a := 8) (by omega) (by omega)).mpr (by omega)), if_neg h8]
      exact j179 _ 3 (fun z => absurd z (by decide)) (by decide)
  · rw [if_pos ((boI_eq _).mpr (Bool.eq_false_iff.mpr hl)), t4, bnd1_some, if_neg hl, if_neg hl, if_neg hl]
    by_cases hd : isDn (u p) = true
    · rw [if_neg (fun z => by rw [(boI_eq _).mp z] at hd; exact Bool.noConfusion hd), m_int hB hp, bnd1_some, if_pos hd, if_pos hd]
      obtain ⟨r1, r2, r3, _⟩ := rn_bd (P := fun i => isDn (u i)) (e := e) (e - p) p rfl (by omega)
      generalize hq : rn (fun i => isDn (u i)) e p = q at *
      show ∃ τ', (if nI (q - p) ≤ 4 then M_X9_cut_J261 τ (nI p) (nI (q - p)) (nI (dM u p (min (q - p) 4))) 2 else M_X9_cut_J261 τ (nI p) (nI (q - p)) (nI (dM u p (min (q - p) 4))) 3) = _ ∧ _
      unfold M_X9_cut_J261
      rw [m_token hk (by omega), m_token hk (by omega), bnd1_some, bnd1_some, nI_add, show p + (q - p) = q by omega]
      by_cases h8 : q - p ≤ 4
      · rw [if_pos (show nI (q - p) ≤ 4 from (nI_leI (b := 4) (by omega) (by omega)).mpr h8), if_pos h8, show min (q - p) 4 = q - p by omega]
        exact ⟨_, rfl, TkM_mk (K := 2) (fun z => absurd z (by decide)) (fun _ => rfl)⟩
      · rw [if_neg (show ¬ nI (q - p) ≤ 4 from fun z => h8 ((nI_leI (b := 4) (by omega) (by omega)).mp z)), if_neg h8]
        exact ⟨_, rfl, TkM_mk (K := 3) (fun z => absurd z (by decide)) (fun z => absurd z (by decide))⟩
    · rw [if_pos ((boI_eq _).mpr (Bool.eq_false_iff.mpr hd)), nI_1, (m_byte hB (i := p + 1) (by omega)).1, bnd1_some, m_sign, m_token hk (by omega), bnd1_some, bnd2_some, nI_1, if_neg hd, if_neg hd, sgm_t ⟨u p, b2⟩]
      exact ⟨_, rfl, TkM_mk (fun z => absurd z (sgk_n _).1) (fun z => absurd z (sgk_n _).2)⟩
end CM
