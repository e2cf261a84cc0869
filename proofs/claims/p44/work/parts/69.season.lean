/-! meetings by chance, tried out on sets alone -/
def Sea (T : Td) (g : Gs) (σ : Wd) : Prop := gI σ 124 2 = nI (tN T) ∧ gI σ 124 3 = nI (gP g) ∧ gI σ 124 4 = nI (gW g) ∧ gI σ 124 5 = nI (gO g) ∧ ∀ c, c < tN T → (∀ w, w < 64 → (gL σ 125 c).toBitVec.getLsbD w = decide (gA g c w = 1)) ∧ gI σ 126 c = nI (gK g c)
theorem Qd.kc {T : Td} {t l : Nat} {g : Gs} {σ σ' τ : Wd} (h : Qd T t l g σ τ) (k : KC σ σ') : Qd T t l g σ' τ := by
  obtain ⟨h1, h2, h3, h4⟩ := h
  have p : ∀ c, c < 35 → pC c := fun c hc => ⟨by omega, by omega, by omega⟩
  refine ⟨RText_eq (σ := σ) (τ := τ) (k 0 (p _ (by decide))).2.2 (fun c q1 q2 => (k c (p _ (by omega))).1) rfl (fun _ _ _ => rfl) h1, by rw [(k 29 (p _ (by decide))).2.1]; exact h2, CA_eq (fun j q1 q2 => (k _ (p _ (by omega))).1) h3, h4⟩
theorem Qd.km {T : Td} {t l : Nat} {g : Gs} {σ τ τ' : Wd} (h : Qd T t l g σ τ) (k : KM τ τ') (e : τ'.1 26 = τ.1 26) : Qd T t l g σ τ' := by
  obtain ⟨h1, h2, h3, h4, h5, h6⟩ := h
  exact ⟨RText_eq (σ := σ) (τ := τ) rfl (fun _ _ _ => rfl) (k.2.2 18 (by decide)) (fun c q1 q2 => k.1 c (by unfold pM; simp; omega)) h1, h2, h3, by rw [e]; exact h4, h5, trivial⟩
theorem c_season {T : Td} {t l : Nat} {g : Gs} {σ τ : Wd} (h : Qd T t l g σ τ) : ∃ σ', M_X5_begin σ = some σ' ∧ KC σ σ' ∧ Sea T g σ' := by
  obtain ⟨hW, hO, hP, hn⟩ := q_bd h
  have q1 : Qd T t l g (uI σ 124 2 (nI (tN T))) τ := h.uI (by decide)
  have q2 : Qd T t l g (uI (uI σ 124 2 (nI (tN T))) 124 3 (nI (gP g))) τ := q1.uI (by decide)
  have q3 : Qd T t l g (uI (uI (uI σ 124 2 (nI (tN T))) 124 3 (nI (gP g))) 124 4 (nI (gW g))) τ := q2.uI (by decide)
  have k4 : KC σ (uI (uI (uI (uI σ 124 2 (nI (tN T))) 124 3 (nI (gP g))) 124 4 (nI (gW g))) 124 5 (nI (gO g))) := KC.uI (nC (by decide)) (KC.uI (nC (by decide)) (KC.uI (nC (by decide)) (KC.uI (nC (by decide)) KC.refl)))
  obtain ⟨x, h1, h2, h3⟩ := ow_for (body := fun s : Int32 × Wd => M_X5_begin_L34 s.1 s.2) (Q := fun x => KC σ x ∧ Sea T g x) (fun i s => ∃ σi, s = (nI i, σi) ∧ KC σ σi ∧ gI σi 124 2 = nI (tN T) ∧ gI σi 124 3 = nI (gP g) ∧ gI σi 124 4 = nI (gW g) ∧ gI σi 124 5 = nI (gO g) ∧ ∀ c, c < i → (∀ w, w < 64 → (gL σi 125 c).toBitVec.getLsbD w = decide (gA g c w = 1)) ∧ gI σi 126 c = nI (gK g c)) (tN T) (FU_big (by omega)) (fun i s hi ⟨σi, hs, hk, e2, e3, e4, e5, hc⟩ => by
    subst hs
    show ow (M_X5_begin_L34 (nI i) σi) _
    have hQ := h.kc hk
    unfold M_X5_begin_L34
    rw [e2, if_neg (fun z => by have := (nI_leI (by omega) (by omega)).mp z; omega), c_setOf (by omega), bnd1_some, chk_pos ((ib_nI (by omega)).mpr (by omega)), ix_nI (by omega)]
    simp only [lt_eq]
    have hk2 : KC σi (uL σi 125 i (gL σi 29 (6 + i))) := KC.uL (nC (by decide)) KC.refl
    rw [(q_known (hQ.kc hk2) (show i < 5 by omega)).1, bnd1_some, chk_pos ((ib_nI (by omega)).mpr (by omega)), nI_1]
    refine ow_some.mpr ⟨_, rfl, hk.trans (hk2.trans (KC.uI (nC (by decide)) KC.refl)), ?_, ?_, ?_, ?_, fun c hci => ?_⟩
    · rw [gI_uI, if_neg (by omega), gI_uL]; exact e2
    · rw [gI_uI, if_neg (by omega), gI_uL]; exact e3
    · rw [gI_uI, if_neg (by omega), gI_uL]; exact e4
    · rw [gI_uI, if_neg (by omega), gI_uL]; exact e5
    · by_cases hcc : c = i
      · subst hcc
        refine ⟨fun w hw => ?_, by rw [gI_uI, if_pos ⟨rfl, rfl⟩]⟩
        rw [gL_uI, gL_uL, if_pos ⟨rfl, rfl⟩]
        exact q_set hQ (by omega) hw
      · have := hc c (by omega)
        refine ⟨fun w hw => ?_, by rw [gI_uI, if_neg (by omega), gI_uL]; exact this.2⟩
        rw [gL_uI, gL_uL, if_neg (by omega)]
        exact this.1 w hw) (fun s ⟨σi, hs, hk, e2, e3, e4, e5, hc⟩ => by
    subst hs
    show ow (M_X5_begin_L34 (nI (tN T)) σi) _
    unfold M_X5_begin_L34
    rw [e2, if_pos ((nI_leI (by omega) (by omega)).mpr (Nat.le_refl _))]
    exact ow_some.mpr ⟨hk, e2, e3, e4, e5, hc⟩) 0 (nI 0, uI (uI (uI (uI σ 124 2 (nI (tN T))) 124 3 (nI (gP g))) 124 4 (nI (gW g))) 124 5 (nI (gO g))) (Nat.zero_le _) ⟨_, rfl, k4, by simp only [gI_uI]; simp, by simp only [gI_uI]; simp, by simp only [gI_uI]; simp, by simp only [gI_uI]; simp, fun c hc => absurd hc (by omega)⟩
  refine ⟨x, ?_, h2, h3⟩
  unfold M_X5_begin
  rw [q_copies h, bnd1_some]
  simp only [lt_eq]
  rw [show M_X1_primary (uI σ 124 2 (nI (tN T))) = some (nI (gP g)) from c_primary q1.2.1.1.2.1, bnd1_some, q_writes q2, bnd1_some, q_ordered q3, bnd1_some]
  rw [show iter (fun s : Int32 × Wd => M_X5_begin_L34 s.1 s.2) FU ((0 : Int32), uI (uI (uI (uI σ 124 2 (nI (tN T))) 124 3 (nI (gP g))) 124 4 (nI (gW g))) 124 5 (nI (gO g))) = some x from h1]
  rfl
theorem brings_iff {g : Gs} {a b W : Nat} {x y : Int64} (hW : W ≤ 64) (hx : ∀ w, w < 64 → x.toBitVec.getLsbD w = decide (gA g a w = 1)) (hy : ∀ w, w < 64 → y.toBitVec.getLsbD w = decide (gA g b w = 1)) (hA : ∀ w, gA g a w = 1 → w < W) : lg_cmp (x &&& (y ^^^ (-1 : Int64))) 0 = 0 ↔ lkN g a b W = 0 := by
  rw [lg_cmp_eq, i64_0, lkN_0]
  constructor
  · intro z w hw hAa
    have := z w (by omega)
    rw [bit_andn (by omega), hx w (by omega), hy w (by omega)] at this
    simpa [hAa] using this
  · intro z w hw
    rw [bit_andn hw, hx w hw, hy w hw]
    by_cases hAa : gA g a w = 1
    · have := z w (hA w hAa) hAa
      simp [this]
    · simp [hAa]
theorem c_letMeet {T : Td} {g g' : Gs} {σ : Wd} {n m a b : Nat} {S mm : Int32} (h : Sea T g σ) (hI : Inv n m g) (hn : tN T ≤ 5) (h2 : 2 ≤ tN T) (ha : a < tN T) (hb : b < tN T) (hab : a ≠ b) (w1 : M_X5_giver (nI (tN T)) S mm = some (nI a)) (w2 : M_X5_taker (nI a) (nI (tN T)) S mm = some (nI b)) (hS : MeetS g a b g') : ∃ σ', M_X5_letMeet σ S mm = some σ' ∧ KC σ σ' ∧ Sea T g' σ' := by
  obtain ⟨s2, s3, s4, s5, sc⟩ := h
  obtain ⟨z1, z2, z3, z4, z5, z6⟩ := hS
  have hW := hI.1.1
  have hO := hI.1.2.1
  have hPn := hI.1.2.2.1
  have hn5 := hI.1.2.2.2.2.1
  have hAw := hI.2.2.2.2.2.1
  have ka : gK g a ≤ 60 := by have := hI.2.2.1 a (by omega); omega
  have kb : gK g b ≤ 60 := by have := hI.2.2.1 b (by omega); omega
  have sa := sc a ha
  have sb := sc b hb
  have bi := brings_iff (W := gW g) (by omega) sa.1 sb.1 (fun w hw => (hAw a w hw).1)
  have cA : ib (nI a) 5 := (ib_nI (by omega)).mpr (by omega)
  have cB : ib (nI b) 5 := (ib_nI (by omega)).mpr (by omega)
  have xA : ix (nI a) = a := ix_nI (by omega)
  have xB : ix (nI b) = b := ix_nI (by omega)
  have eM : (if nI (gK g b) < nI (gK g a) then nI (gK g a) else nI (gK g b)) = nI (max (gK g b) (gK g a)) := by
    by_cases q : gK g b < gK g a
    · rw [if_pos ((nI_ltI (by omega) (by omega)).mpr q), Nat.max_eq_right (by omega)]
    · rw [if_neg (fun z => q ((nI_ltI (by omega) (by omega)).mp z)), Nat.max_eq_left (by omega)]
  have hbits : ∀ w, w < 64 → (gL σ 125 b ||| gL σ 125 a).toBitVec.getLsbD w = decide (gA g' b w = 1) := fun w hw => by
    rw [Int64.toBitVec_or, BitVec.getLsbD_or, sb.1 w hw, sa.1 w hw, z4]
    by_cases q : gA g a w = 1
    · rw [if_pos ⟨rfl, q⟩]; simp [q]
    · rw [if_neg (fun z => q z.2)]; simp [q]
  have e59 : ∀ t0, M_X5_letMeet_J59 σ (nI a) (nI b) t0 = if nI b ≠ nI (gP g) then some (uI (uL σ 125 b (gL σ 125 b ||| gL σ 125 a)) 126 b (nI (max (gK g b) (gK g a)))) else if t0 = 0 then some (uI (uL σ 125 b (gL σ 125 b ||| gL σ 125 a)) 126 b (nI (max (gK g b) (gK g a)))) else some (uI (uI (uI (uL σ 125 b (gL σ 125 b ||| gL σ 125 a)) 126 b (nI (max (gK g b) (gK g a)))) 124 5 (nI (cnN (hsP g' b) (gW g)))) 126 b (nI (cnN (hsP g' b) (gW g)))) := fun t0 => by
    unfold M_X5_letMeet_J59
    simp only [chk_pos cA, chk_pos cB, xA, xB, lt_eq]
    rw [gI_uL, gI_uL, sa.2, sb.2, eM]
    rw [show gI (uI (uL σ 125 b (gL σ 125 b ||| gL σ 125 a)) 126 b (nI (max (gK g b) (gK g a)))) 124 3 = nI (gP g) from by rw [gI_uI, if_neg (by omega), gI_uL]; exact s3]
    rw [show M_J13_bitCount_95d88 (gL (uI (uL σ 125 b (gL σ 125 b ||| gL σ 125 a)) 126 b (nI (max (gK g b) (gK g a)))) 125 b) = some (nI (cnN (hsP g' b) (gW g))) from by
      rw [gL_uI, gL_uL, if_pos ⟨rfl, rfl⟩]
      refine cn64 (by omega) hbits (fun w hw => ?_)
      have hw : gA g' b w = 1 := of_decide_eq_true hw
      rw [z4] at hw
      by_cases q : b = b ∧ gA g a w = 1
      · exact (hAw a w q.2).1
      · rw [if_neg q] at hw; exact (hAw b w hw).1]
    rw [bnd1_some, show gI (uI (uI (uL σ 125 b (gL σ 125 b ||| gL σ 125 a)) 126 b (nI (max (gK g b) (gK g a)))) 124 5 (nI (cnN (hsP g' b) (gW g)))) 124 5 = nI (cnN (hsP g' b) (gW g)) from by rw [gI_uI, if_pos ⟨rfl, rfl⟩]]
  have sO : ∀ σ' : Wd, gI σ' 124 2 = nI (tN T) → gI σ' 124 3 = nI (gP g) → gI σ' 124 4 = nI (gW g) → gI σ' 124 5 = nI (gO g') → (∀ c, gL σ' 125 c = if c = b then gL σ 125 b ||| gL σ 125 a else gL σ 125 c) → (∀ c, gI σ' 126 c = if c = b then nI (gK g' b) else gI σ 126 c) → Sea T g' σ' := fun σ' p2 p3 p4 p5 p6 p7 => by
    refine ⟨p2, by rw [z2]; exact p3, by rw [z1]; exact p4, p5, fun c hc => ⟨fun w hw => ?_, ?_⟩⟩
    · rw [p6]
      by_cases q : c = b
      · subst q; rw [if_pos rfl]; exact hbits w hw
      · rw [if_neg q, z4, if_neg (fun z => q z.1)]; exact (sc c hc).1 w hw
    · rw [p7]
      by_cases q : c = b
      · subst q; rw [if_pos rfl]
      · rw [if_neg q, z5 c q]; exact (sc c hc).2
  have u6 : ∀ (f : Wd) c, gL f 125 c = gL (uL σ 125 b (gL σ 125 b ||| gL σ 125 a)) 125 c → gL f 125 c = if c = b then gL σ 125 b ||| gL σ 125 a else gL σ 125 c := fun f c e => by
    rw [e, gL_uL]
    by_cases q : c = b
    · subst q; rw [if_pos ⟨rfl, rfl⟩, if_pos rfl]
    · rw [if_neg (fun z => q z.2), if_neg q]
  have hk0 : KC σ (uI (uL σ 125 b (gL σ 125 b ||| gL σ 125 a)) 126 b (nI (max (gK g b) (gK g a)))) := KC.uI (nC (by decide)) (KC.uL (nC (by decide)) KC.refl)
  have g126 : ∀ v c, gI (uI (uL σ 125 b (gL σ 125 b ||| gL σ 125 a)) 126 b v) 126 c = if c = b then v else gI σ 126 c := fun v c => by
    rw [gI_uI]
    by_cases q : c = b
    · subst q; rw [if_pos ⟨rfl, rfl⟩, if_pos rfl]
    · rw [if_neg (fun z => q z.2), if_neg q, gI_uL]
  have e0 : ∀ r, M_X5_letMeet σ S mm = r ↔ M_X5_letMeet_J59 σ (nI a) (nI b) (if lkN g a b (gW g) = 0 then 0 else 1) = r := fun r => by
    unfold M_X5_letMeet
    rw [s2, if_pos (show (2 : Int32) ≤ nI (tN T) from (nI_leI (a := 2) (by decide) (by omega)).mpr h2), w1, bnd1_some, w2, bnd1_some, chk_pos cA, chk_pos cB, xA, xB]
    by_cases q : lkN g a b (gW g) = 0
    · rw [if_pos (bi.mpr q), if_pos q]
    · rw [if_neg (fun z => q (bi.mp z)), if_neg q]
  by_cases hg : b = gP g ∧ lkN g a b (gW g) ≠ 0
  · rw [if_pos hg] at z6
    refine ⟨uI (uI (uI (uL σ 125 b (gL σ 125 b ||| gL σ 125 a)) 126 b (nI (max (gK g b) (gK g a)))) 124 5 (nI (cnN (hsP g' b) (gW g)))) 126 b (nI (cnN (hsP g' b) (gW g))), (e0 _).mpr ((e59 _).trans ?_), KC.uI (nC (q := 126) (by decide)) (KC.uI (nC (q := 124) (by decide)) hk0), sO _ ?_ ?_ ?_ ?_ (fun c => u6 _ c rfl) (fun c => ?_)⟩
    · rw [if_neg (fun z => z (by rw [hg.1])), if_neg hg.2, if_neg n10]
    · simp only [gI_uI, gI_uL]; simp; exact s2
    · simp only [gI_uI, gI_uL]; simp; exact s3
    · simp only [gI_uI, gI_uL]; simp; exact s4
    · simp only [gI_uI, gI_uL]; simp; rw [z6.1, z6.2]
    · rw [gI_uI]
      by_cases q : c = b
      · rw [if_pos ⟨rfl, q⟩, if_pos q, z6.2]
      · rw [if_neg (fun z => q z.2), if_neg q, gI_uI, if_neg (by omega), g126, if_neg q]
  · rw [if_neg hg] at z6
    refine ⟨uI (uL σ 125 b (gL σ 125 b ||| gL σ 125 a)) 126 b (nI (max (gK g b) (gK g a))), (e0 _).mpr ((e59 _).trans ?_), hk0, sO _ ?_ ?_ ?_ ?_ (fun c => u6 _ c rfl) (fun c => by rw [g126, z6.2])⟩
    · by_cases q : b = gP g
      · have q2 : lkN g a b (gW g) = 0 := Classical.byContradiction fun z => hg ⟨q, z⟩
        rw [if_neg (fun z => z (by rw [q])), if_pos q2, if_pos rfl]
      · rw [if_pos (show nI b ≠ nI (gP g) from fun z => q ((nI_eq (by omega) (by omega)).mp z))]
    · rw [gI_uI, if_neg (by omega), gI_uL]; exact s2
    · rw [gI_uI, if_neg (by omega), gI_uL]; exact s3
    · rw [gI_uI, if_neg (by omega), gI_uL]; exact s4
    · rw [gI_uI, if_neg (by omega), gI_uL, z6.1]; exact s5
theorem Sea.tick {T : Td} {g : Gs} {σ : Wd} {v : Nat} (h : Sea T g σ) : Sea T (uG g 3 0 0 v) σ := h
theorem sea_step {T : Td} {t l : Nat} {g0 g : Gs} {σ1 τ0 σ τ σs : Wd} {S : Int32} (h : Mid T g0 σ1 τ0 g σ τ) (hT : RText T t l σ1 τ0) (hS : gI τ0 0 43 = S) (hs : Sea T g σs) : ∃ g' σ' τ' σs', M_X9_meetsByChance τ = some τ' ∧ M_X5_letMeet σs S (nI (gC g)) = some σs' ∧ Mid T g0 σ1 τ0 g' σ' τ' ∧ Sea T g' σs' ∧ KC σs σs' ∧ gC g' = gC g + 1 := by
  have hn := hT.2.2.2.2.2.1.2.1
  have hn1 := hT.2.2.2.2.2.1.1
  have hI := h.2.2.2.2.2.2.1
  obtain ⟨g', σ', τ', c1, c2, c3, c4, c5, c6⟩ := h.chance hT hS
  by_cases h2 : 2 ≤ tN T
  · obtain ⟨a, b, ha, hb, hab, w1, w2, w3⟩ := c5 h2
    obtain ⟨σs', e1, e2, e3⟩ := c_letMeet hs.tick (show Inv (tN T) (tF T) (uG g 3 0 0 (gC g + 1)) from hI) hn h2 ha hb hab w1 w2 w3
    exact ⟨g', σ', τ', σs', c1, e1, c2, e3, e2, c3⟩
  · refine ⟨g', σ', τ', σs, c1, ?_, c2, ?_, KC.refl, c3⟩
    · unfold M_X5_letMeet
      rw [hs.1, if_neg (fun z : (2 : Int32) ≤ _ => by have := (nI_leI (a := 2) (by decide) (by omega)).mp z; omega)]
    · rw [c4 (by omega)]
      exact hs.tick
