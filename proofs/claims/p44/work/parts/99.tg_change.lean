/-! asking; and the last of the questions -/
theorem lN_inj {a b : Nat} (ha : a < 2 ^ 64) (hb : b < 2 ^ 64) (h : lN a = lN b) : a = b := lN_in ha hb h
section XC
variable {T : Td} {g : Gs} {un : Nat} {hs sl : Nat → Gs} {hl : Nat → Nat} {σ : Wd}
/-- what asking makes, where it may -/
def AskS (T : Td) (g : Gs) (s c : Nat) (v : Int32) (g' : Gs) : Prop := (∀ t x y, t ≠ 13 → t ≠ 4 → t ≠ 5 → g'.1 t x y = g.1 t x y) ∧ (∀ o, o < tN T → gE g' s o = max (gE g s o) (vecN g c o (gW g))) ∧ (∀ t x, t ≠ 3 → t ≠ 4 → ¬ (t = 6 ∧ x = s) → g'.2 t x = g.2 t x) ∧ iGt g' s = v ∧ (∀ x, iC g' 2 x = if x = c then iC g 2 x + 1 else iC g 2 x) ∧ (∀ x, iC g' 3 x = if x = c then iC g 3 x + 1 else iC g 3 x)
theorem x_ask (h : At T g un hs sl hl σ) (hun : un < 40) {s c k : Nat} (hs4 : s < 4) (hc : c < tN T) (hk6 : k < tC T) : (rfA T g s c = true ∧ ∃ σ', M_X8_ask σ (nI s) (nI c) (nI k) = some (0, σ') ∧ At T (shG (uV (opG g c) 5 s (iRf g s + 1)) c) (un + 1) (pushH hs un g) sl hl σ') ∨ (rfA T g s c = false ∧ ∃ g' σ', AskS T g s c (envS T g (lf g c) (ln g c) k) g' ∧ M_X8_ask σ (nI s) (nI c) (nI k) = some (1, σ') ∧ At T g' (un + 1) (pushH hs un g) sl hl σ') := by
  have n5 := h.n5
  obtain ⟨t, l, τ0, hQ, σ1, τ1, hk, hT1, hm, hend⟩ := h.lay hun
  have hC6 := n5.2.2.1
  obtain ⟨g2, σ2, τ2, eg2, p1, p2, m2, f1, f2⟩ := hm.opensX hc
  have hQ2 := m2.qd hT1
  have er : rfA T g2 s c = rfA T g s c := rfA_1 (by rw [eg2]; rfl)
  obtain ⟨ht, h4, hl2, h18, hTI, hTC, hTM⟩ := gR_mid hQ2.1
  have e0 : M_X8_ask σ (nI s) (nI c) (nI k) = if boI (rfA T g s c) = 0 then (chk (famT (gR σ2 0 4)) (bnd1 (M_X4_play σ2 108 (gR σ2 0 4) (nI c)) fun s_84 => bnd1 (M_X4_lastOf s_84 108 (nI k)) fun r98 => bnd1 (M_X1_tellTo s_84 (nI s) (nI c) r98) fun s_101 => M_X8_ask_J104 s_101 (nI c) (boI (rfA T g s c)))) else (bnd1 (M_X1_refuse σ2 (nI s)) fun s_65 => M_X8_ask_J104 s_65 (nI c) (boI (rfA T g s c))) := by
    unfold M_X8_ask
    rw [c_isSession_t hs4, bnd1_some, if_neg n10, x_isCopy h hc, bnd1_some, if_neg n10, x_isCell h hk6, bnd1_some, if_pos n01, hk, bnd1_some, p1, bnd1_some, c_rfA hQ2 hs4 (show c < 5 by omega), bnd1_some, er]
  cases hr : rfA T g s c
  · right
    rw [hr, if_pos (show boI false = 0 from rfl)] at e0
    obtain ⟨hW2, _, _, _⟩ := q_bd hQ2
    have hI2 := hQ2.2.2.2.2.1
    obtain ⟨σp, y1, y2, y3⟩ := c_play hQ2 (q := 108) (c := c) (by decide) (by omega)
    have lN60 : ln g2 c ≤ 60 := Nat.le_trans (ln_facts hI2 (show c < 5 by omega)).2.2.1 hW2
    have mp := m2.fq y2
    have mg := mp.got (v := envS T g2 (lf g2 c) (ln g2 c) k) hs4
    obtain ⟨gX, A1, A2, A3, A4, A5⟩ := mg.seens (nI k) hT1 hs4 hc
    obtain ⟨g5, σ5, τ5, eg5, s1, s2, s3, _⟩ := A3.shutsX hc
    -- the same log, the same cells
    have E2 : g2.1 = g.1 := by rw [eg2]; rfl
    have lc := lg_cong (g := g) (g' := g2) (P := hsP g c) (P' := hsP g2 c) (k := gK g c) (fun x => by show g2.1 _ _ _ = _; rw [E2]) (fun x => by show g2.1 _ _ _ = _; rw [E2]) (fun x => by show g2.1 _ _ _ = _; rw [E2]) (by show g2.1 _ _ _ = _; rw [E2]) (fun w _ => by show decide (g2.1 11 c w = 1) = decide (g.1 11 c w = 1); rw [E2])
    have eK : gK g2 c = gK g c := by show g2.1 _ _ _ = _; rw [E2]
    have eln : ln g2 c = ln g c := by show lgn g2 (hsP g2 c) (gK g2 c) = _; rw [eK]; exact lc.2
    have elf : lf g2 c = lf g c := by show lgf g2 (hsP g2 c) (gK g2 c) = _; rw [eK]; exact lc.1
    have hd := doS_cong (T := T) (g := g) (g' := g2) (fun w => by show g2.1 _ _ _ = _; rw [E2]) f2 (fun w => by show g2.1 _ _ _ = _; rw [E2]) (fun w => by show g2.1 _ _ _ = _; rw [E2])
    have eenv : envS T g2 (lf g2 c) (ln g2 c) k = envS T g (lf g c) (ln g c) k := by
      rw [eln, elf, envS_cong (n := ln g c) hd (fun _ _ => rfl) (ln g c) (Nat.le_refl _)]
    have hE : ∀ o, o < tN T → gE gX s o = max (gE g s o) (vecN g c o (gW g)) := fun o ho => by
      have hIX := A3.2.2.2.2.2.2.1
      have q1 := ((A3.2.2.2.1.2.2.2 s hs4).2.2.2 o (by omega)).1
      have bd := ((hIX.2.2.2.2.2.2.2.2.2.2.2.1 s hs4).2 o).1
      have bd2 := ((h.inv.2.2.2.2.2.2.2.2.2.2.2.1 s hs4).2 o).1
      have bd3 := vecN_le (c := c) (o := o) h.inv (gW g) (Nat.le_refl _)
      rw [show (rL (uL σp 29 (52 + s) (envS T g2 (lf g2 c) (ln g2 c) k).toInt64) 29 (seC ((uL σp 29 (52 + s) (envS T g2 (lf g2 c) (ln g2 c) k).toInt64).2.1 29) s (fun o => max (gE (uV g2 6 s (envS T g2 (lf g2 c) (ln g2 c) k)) s o) (vecN (uV g2 6 s (envS T g2 (lf g2 c) (ln g2 c) k)) c o (gW (uV g2 6 s (envS T g2 (lf g2 c) (ln g2 c) k))))) (tN T))).2.1 29 = seC ((uL σp 29 (52 + s) (envS T g2 (lf g2 c) (ln g2 c) k).toInt64).2.1 29) s (fun o => max (gE (uV g2 6 s (envS T g2 (lf g2 c) (ln g2 c) k)) s o) (vecN (uV g2 6 s (envS T g2 (lf g2 c) (ln g2 c) k)) c o (gW (uV g2 6 s (envS T g2 (lf g2 c) (ln g2 c) k))))) (tN T) from rL_at] at q1
      unfold seC at q1
      rw [if_pos (by omega), show 56 + 5 * s + o - (56 + 5 * s) = o by omega] at q1
      have ev : vecN (uV g2 6 s (envS T g2 (lf g2 c) (ln g2 c) k)) c o (gW (uV g2 6 s (envS T g2 (lf g2 c) (ln g2 c) k))) = vecN g c o (gW g) := by
        rw [vecN_1 (g := g) (show (uV g2 6 s (envS T g2 (lf g2 c) (ln g2 c) k)).1 = g.1 from E2)]
        congr 1
        show g2.1 _ _ _ = _
        rw [E2]
      have eE : gE (uV g2 6 s (envS T g2 (lf g2 c) (ln g2 c) k)) s o = gE g s o := by show g2.1 _ _ _ = _; rw [E2]
      have q1 : lN (max (gE (uV g2 6 s (envS T g2 (lf g2 c) (ln g2 c) k)) s o) (vecN (uV g2 6 s (envS T g2 (lf g2 c) (ln g2 c) k)) c o (gW (uV g2 6 s (envS T g2 (lf g2 c) (ln g2 c) k))))) = lN (gE gX s o) := q1
      rw [ev, eE] at q1
      exact (lN_inj (by omega) (by omega) q1).symm
    refine ⟨rfl, g5, σ5, ⟨fun t x y q1 q2 q3 => ?_, fun o ho => ?_, fun t x q1 q2 q3 => ?_, ?_, fun x => ?_, fun x => ?_⟩, ?_, hend _ _ _ s3⟩
    · rw [eg5]
      show (if t = 5 then _ else if t = 4 then _ else gX.1 t x y) = _
      rw [if_neg q3, if_neg q2, A4 t x y q1]
      show g2.1 t x y = _
      rw [E2]
    · rw [eg5]
      exact hE o ho
    · rw [eg5]
      show (if t = 4 ∧ x = c then _ else gX.2 t x) = _
      rw [if_neg (fun z => q2 z.1), A5]
      show (if t = 6 ∧ x = s then _ else g2.2 t x) = _
      rw [if_neg q3, eg2]
      exact if_neg (fun z => q1 z.1)
    · rw [eg5]
      show gX.2 6 s = _
      rw [A5]
      show (if 6 = 6 ∧ s = s then _ else _) = _
      rw [if_pos ⟨rfl, rfl⟩, eenv]
    · rw [eg5]
      show gX.2 3 x = _
      rw [A5]
      show g2.2 3 x = _
      rw [eg2]
      show (if 3 = 3 ∧ x = c then g.2 3 c + 1 else g.2 3 x) = if x = c then g.2 3 x + 1 else g.2 3 x
      by_cases q : x = c
      · rw [if_pos ⟨rfl, q⟩, if_pos q, q]
      · rw [if_neg (fun z => q z.2), if_neg q]
    · rw [eg5]
      show (if 4 = 4 ∧ x = c then gX.2 4 c + 1 else gX.2 4 x) = if x = c then g.2 4 x + 1 else g.2 4 x
      have e4 : ∀ x, gX.2 4 x = g.2 4 x := fun x => by
        rw [A5]
        show g2.2 4 x = _
        rw [eg2]
        show (if 4 = 3 ∧ x = c then g.2 3 c + 1 else g.2 4 x) = _
        exact if_neg (fun z => absurd z.1 (by decide))
      by_cases q : x = c
      · rw [if_pos ⟨rfl, q⟩, if_pos q, e4, q]
      · rw [if_neg (fun z => q z.2), if_neg q, e4]
    · rw [e0, h4, chk_pos ht, y1, bnd1_some, c_last y3 lN60 hk6 hC6, bnd1_some]
      unfold M_X1_tellTo
      rw [show (52 : Int32) + nI s = nI (52 + s) from nI_add 52 s, chk_pos ((ib_nI (by omega)).mpr (by omega)), ix_nI (by omega), lt_eq, A1, bnd1_some]
      show bnd1 (some _) _ = _
      rw [bnd1_some]
      unfold M_X8_ask_J104
      rw [s1, bnd1_some, if_pos (show boI false = 0 from rfl)]
  · left
    rw [hr, if_neg (show ¬ boI true = 0 from n10)] at e0
    obtain ⟨g5, σ5, τ5, eg5, w1, w2, w3, _⟩ := m2.refuseX hs4
    obtain ⟨g6, σ6, τ6, eg6, y1, y2, y3, _⟩ := w3.shutsX hc
    refine ⟨rfl, σ6, ?_, ?_⟩
    · rw [e0, w1, bnd1_some]
      unfold M_X8_ask_J104
      rw [y1, bnd1_some, if_neg (show ¬ boI true = 0 from n10)]
    · have := hend _ _ _ y3
      rw [eg6, eg5, eg2] at this
      exact this
theorem x_askBad (h : At T g un hs sl hl σ) {v : Int32} {c k : Nat} (hc : c < 2 ^ 20) (hk : k < 2 ^ 20) (hv : M_X8_isSession v = some 0 ∨ ∃ s, s < 4 ∧ v = nI s) (hb : M_X8_isSession v = some 0 ∨ tN T ≤ c ∨ tC T ≤ k) : M_X8_ask σ v (nI c) (nI k) = some (-1, σ) := by
  have n5 := h.n5
  unfold M_X8_ask
  rcases hv with e | ⟨s, hs4, rfl⟩
  · rw [e, bnd1_some, if_pos rfl]
  · rw [c_isSession_t hs4, bnd1_some, if_neg n10]
    by_cases hcn : c < tN T
    · rw [x_isCopy h hcn, bnd1_some, if_neg n10]
      by_cases hkn : k < tC T
      · rcases hb with z | z | z
        · rw [c_isSession_t hs4] at z
          exact absurd (Option.some.inj z) n10
        · omega
        · omega
      · rw [x_noCell h (by omega) (by omega), bnd1_some, if_neg z00]
    · rw [x_noCopy h (by omega) (by omega), bnd1_some, if_pos rfl]
/-- who set a cell last -/
theorem x_setter (h : At T g un hs sl hl σ) {c k : Nat} (hc : c < tN T) (hk : k < tC T) : ∃ σ', M_X8_setter σ (nI c) (nI k) = some (stS T g (lf g c) k (ln g c), σ') ∧ At T g un hs sl hl σ' := by
  obtain ⟨t, l, τ, σ', hQ, ht, h4, p1, p2, p3, kc⟩ := x_play h hc
  have n5 := h.n5
  have hTI := h.tI
  have hI := h.inv
  have hC6 := n5.2.2.1
  have lx := ln_facts hI (show c < 5 by omega)
  have lw := h.lnW hc
  refine ⟨σ', ?_, h.kc kc⟩
  have hch : ∀ i, i < ln g c → chS T g (lf g c) i ≤ 6 := fun i hi => Nat.le_trans (do_out hTI (hI.2.2.2.2.2.2.2.2.2.1 _ (lx.1 i hi)).1).2 hC6
  have e8 : M_X4_setterOf σ' 108 (nI k) = some (stS T g (lf g c) k (ln g c)) := by
    unfold M_X4_setterOf
    rw [p3.1, lt_eq]
    obtain ⟨x, h1, h2⟩ := ow_iter (body := fun s : Int32 => M_X4_setterOf_L7 108 σ' (nI k) s) (Q := fun x => sx (un0 (some (-2 : Int32))) (fun q => some q) x = some (stS T g (lf g c) k (ln g c))) (fun m s => m ≤ ln g c ∧ s = nI m - 1 ∧ stS T g (lf g c) k (ln g c) = stS T g (lf g c) k m) (fun m s ⟨hm, hs, he⟩ => by
      subst hs
      show ow (M_X4_setterOf_L7 108 σ' (nI k) (nI m - 1)) _
      unfold M_X4_setterOf_L7
      by_cases h0 : m = 0
      · subst h0
        rw [if_pos (by decide)]
        refine ow_some.mpr ?_
        rw [he]
        rfl
      · obtain ⟨w, rfl⟩ : ∃ w, m = w + 1 := ⟨m - 1, by omega⟩
        have es : stS T g (lf g c) k (w + 1) = if chS T g (lf g c) w = k + 1 then nI (lf g c w) else stS T g (lf g c) k w := rfl
        have ce := ch_eq (hch w (by omega)) (show k < 6 by omega)
        rw [nI_pred1 (by omega), Nat.add_sub_cancel, if_neg (nI_n0 (by omega)), chk_pos ((ib_nI (by omega)).mpr (by omega)), ix_nI (by omega), show gI σ' (108 + 5) w = chI (chS T g (lf g c) w) from (p3.2.2.1 w (by omega)).2]
        by_cases hcw : chS T g (lf g c) w = k + 1
        · rw [if_neg (fun z => z (ce.mpr hcw)), chk_pos ((ib_nI (by omega)).mpr (by omega)), show gI σ' (108 + 3) w = nI (lf g c w) from p3.2.1 w (by omega)]
          refine ow_some.mpr ?_
          rw [he, es, if_pos hcw]
          rfl
        · rw [if_pos (fun z => hcw (ce.mp z)), lt_eq]
          exact ow_some.mpr ⟨w, by omega, by omega, by rw [Int32.sub_eq_add_neg], by rw [he, es, if_neg hcw]⟩) FU (ln g c) (nI (ln g c) - 1) (FU_big (by omega)) ⟨Nat.le_refl _, rfl, rfl⟩
    rw [show iter (fun s : Int32 => M_X4_setterOf_L7 108 σ' (nI k) s) FU (nI (ln g c) - 1) = some x from h1, bnd1_some]
    exact h2
  unfold M_X8_setter
  rw [x_isCopy h hc, bnd1_some, if_neg n10, x_isCell h hk, bnd1_some, if_pos n01, h4, chk_pos ht, p1, bnd1_some, e8, bnd1_some]
/-- the first that did not come out as it was written -/
def clS (T : Td) (g : Gs) (f : Nat → Nat) : Nat → Nat → Int32
  | 0, _ => -2
  | d + 1, i => if outS T g f i = 0 then clS T g f d (i + 1) else nI (f i)
theorem x_clash (h : At T g un hs sl hl σ) {c : Nat} (hc : c < tN T) : ∃ σ', M_X8_clash σ (nI c) = some (clS T g (lf g c) (ln g c) 0, σ') ∧ At T g un hs sl hl σ' := by
  obtain ⟨t, l, τ, σ', hQ, ht, h4, p1, p2, p3, kc⟩ := x_play h hc
  have n5 := h.n5
  have lw := h.lnW hc
  refine ⟨σ', ?_, h.kc kc⟩
  have run : ∀ (d i k : Nat), i + d = ln g c → d < k → ∃ x, iter (fun s : Int32 => M_X8_clash_L28 σ' s) k (nI i) = some x ∧ sx (un0 (some ((-2 : Int32), σ'))) (fun q => some q) x = some (clS T g (lf g c) d i, σ') := by
    intro d
    induction d with
    | zero =>
      intro i k hi hk
      obtain ⟨m, rfl⟩ : ∃ m, k = m + 1 := ⟨k - 1, by omega⟩
      refine ⟨.inl (), it_x ?_, rfl⟩
      show M_X8_clash_L28 σ' (nI i) = _
      unfold M_X8_clash_L28
      rw [p3.1, if_pos ((nI_leI (by omega) (by omega)).mpr (by omega))]
    | succ d ih =>
      intro i k hi hk
      obtain ⟨m, rfl⟩ : ∃ m, k = m + 1 := ⟨k - 1, by omega⟩
      have hle : ¬ nI (ln g c) ≤ nI i := fun z => by have := (nI_leI (by omega) (by omega)).mp z; omega
      have ci : ib (nI i) 60 := (ib_nI (by omega)).mpr (by omega)
      have xi : ix (nI i) = i := ix_nI (by omega)
      have e8 : M_X8_clash_L28 σ' (nI i) = if outS T g (lf g c) i = 0 then some (.inl (nI (i + 1))) else some (.inr (.inr (nI (lf g c i), σ'))) := by
        unfold M_X8_clash_L28 M_X4_outcomeAt
        rw [p3.1, if_neg hle, if_neg (nI_n0 (by omega)), if_neg hle, chk_pos ci, xi, (p3.2.2.1 i (by omega)).1, bnd1_some, chk_pos ci, show gI σ' (108 + 3) i = nI (lf g c i) from p3.2.1 i (by omega), nI_1]
        rfl
      by_cases h0 : outS T g (lf g c) i = 0
      · rw [if_pos h0] at e8
        obtain ⟨x, q1, q3⟩ := ih (i + 1) m (by omega) (by omega)
        refine ⟨x, (it_s e8).trans q1, q3.trans ?_⟩
        show _ = some ((if outS T g (lf g c) i = 0 then clS T g (lf g c) d (i + 1) else nI (lf g c i)), σ')
        rw [if_pos h0]
      · rw [if_neg h0] at e8
        refine ⟨_, it_x e8, ?_⟩
        show _ = some ((if outS T g (lf g c) i = 0 then clS T g (lf g c) d (i + 1) else nI (lf g c i)), σ')
        rw [if_neg h0]
        rfl
  obtain ⟨x, q1, q3⟩ := run (ln g c) 0 FU (by omega) (FU_big (by omega))
  unfold M_X8_clash
  rw [x_isCopy h hc, bnd1_some, if_pos n01, h4, chk_pos ht, p1, bnd1_some, show (0 : Int32) = nI 0 from rfl, q1, bnd1_some, q3]
/-- the cells that differ -/
def dfN (T : Td) (g : Gs) (a b : Nat) : Nat → Int32
  | 0 => 0
  | k + 1 => if envS T g (lf g a) (ln g a) k = envS T g (lf g b) (ln g b) k then dfN T g a b k else dfN T g a b k ||| ((1 : Int32) <<< (nI k &&& 31))
theorem x_differ (h : At T g un hs sl hl σ) {c d : Nat} (hc : c < tN T) (hd : d < tN T) : ∃ σ', M_X8_differ σ (nI c) (nI d) = some (dfN T g c d (tC T), σ') ∧ At T g un hs sl hl σ' := by
  obtain ⟨t, l, τ, σ', hQ, ht, h4, p1, p2, p3, hKC⟩ := x_play h hc
  have n5 := h.n5
  have hC6 := n5.2.2.1
  have hQ' := hQ.kc hKC
  obtain ⟨_, h4', _, _, _, _, _⟩ := gR_mid hQ'.1
  obtain ⟨σ2, r1, r2, r3⟩ := c_play hQ' (q := 116) (c := d) (by decide) (by omega)
  have hKC2 := r2.kc (by decide)
  have p3' : PlC T g c 108 σ2 := p3.o (fun x h1 h2 => r2.2 x (Or.inl (by omega)))
  have lc := h.lnW hc
  have ld := h.lnW hd
  obtain ⟨_, h42, _, _, _, hTC2, _⟩ := gR_mid ((hQ'.kc hKC2).1)
  refine ⟨σ2, ?_, h.kc (hKC.trans hKC2)⟩
  obtain ⟨x, h1, h2⟩ := ow_for (body := fun s : Int32 × Int32 => M_X8_differ_L48 σ2 s.1 s.2) (Q := fun x => x = dfN T g c d (tC T)) (fun i s => s = (dfN T g c d i, nI i)) (tC T) (FU_big (by omega)) (fun i s hi hs => by
    subst hs
    show ow (M_X8_differ_L48 σ2 (dfN T g c d i) (nI i)) _
    have e1 : dfN T g c d (i + 1) = if envS T g (lf g c) (ln g c) i = envS T g (lf g d) (ln g d) i then dfN T g c d i else dfN T g c d i ||| ((1 : Int32) <<< (nI i &&& 31)) := rfl
    unfold M_X8_differ_L48
    rw [h42, chk_pos ht, hTC2.1.2.2.2.1, if_neg (fun z => by have := (nI_leI (by omega) (by omega)).mp z; omega), c_last p3' (by omega) hi hC6, bnd1_some, c_last r3 (by omega) hi hC6, bnd1_some, nI_1]
    by_cases hz : envS T g (lf g c) (ln g c) i = envS T g (lf g d) (ln g d) i
    · rw [if_pos hz] at e1 ⊢
      refine ow_some.mpr ?_
      show _ = _
      rw [e1]
    · rw [if_neg hz] at e1 ⊢
      refine ow_some.mpr ?_
      show _ = _
      rw [e1]) (fun s hs => by
    subst hs
    show ow (M_X8_differ_L48 σ2 _ (nI (tC T))) _
    unfold M_X8_differ_L48
    rw [h42, chk_pos ht, hTC2.1.2.2.2.1, if_pos ((nI_leI (by omega) (by omega)).mpr (Nat.le_refl _))]
    exact ow_some.mpr rfl) 0 ((0 : Int32), (0 : Int32)) (Nat.zero_le _) rfl
  unfold M_X8_differ
  rw [are_t (x_isCopy h hc) (x_isCopy h hd), bnd1_some, if_pos n01, h4, chk_pos ht, p1, bnd1_some, h4', chk_pos ht, r1, bnd1_some, show iter (fun s : Int32 × Int32 => M_X8_differ_L48 σ2 s.1 s.2) FU ((0 : Int32), (0 : Int32)) = some x from h1, h2]
  rfl
/-- the write on which most hang: how many, and which (the first of such) -/
def kyN (T : Td) (g : Gs) (c : Nat) : Nat → Nat × Int32
  | 0 => (0, -2)
  | i + 1 => if cH T g (lf g c) i (ln g c) ≤ (kyN T g c i).1 then kyN T g c i else (cH T g (lf g c) i (ln g c), nI (lf g c i))
theorem kyN_bd {T : Td} {g : Gs} {c : Nat} : ∀ i, (kyN T g c i).1 ≤ ln g c ∧ (((kyN T g c i).1 = 0 ∧ (kyN T g c i).2 = -2) ∨ ((kyN T g c i).1 ≠ 0 ∧ ∃ j, j < i ∧ (kyN T g c i).2 = nI (lf g c j) ∧ (kyN T g c i).1 = cH T g (lf g c) j (ln g c))) ∧ ∀ j, j < i → cH T g (lf g c) j (ln g c) ≤ (kyN T g c i).1 := by
  intro i
  induction i with
  | zero => exact ⟨Nat.zero_le _, Or.inl ⟨rfl, rfl⟩, fun j hj => absurd hj (by omega)⟩
  | succ i ih =>
    have hcl := cH_le (T := T) (g := g) (f := lf g c) (p := i) (ln g c)
    have e : kyN T g c (i + 1) = if cH T g (lf g c) i (ln g c) ≤ (kyN T g c i).1 then kyN T g c i else (cH T g (lf g c) i (ln g c), nI (lf g c i)) := rfl
    rw [e]
    by_cases q : cH T g (lf g c) i (ln g c) ≤ (kyN T g c i).1
    · rw [if_pos q]
      refine ⟨ih.1, ?_, fun j hj => ?_⟩
      · rcases ih.2.1 with z | ⟨z1, j, z2, z3⟩
        · exact Or.inl z
        · exact Or.inr ⟨z1, j, by omega, z3⟩
      · by_cases hj2 : j = i
        · rw [hj2]; exact q
        · exact ih.2.2 j (by omega)
    · rw [if_neg q]
      refine ⟨hcl, Or.inr ⟨by show cH T g (lf g c) i (ln g c) ≠ 0; omega, i, by omega, rfl, rfl⟩, fun j hj => ?_⟩
      show cH T g (lf g c) j (ln g c) ≤ cH T g (lf g c) i (ln g c)
      by_cases hj2 : j = i
      · rw [hj2]; exact Nat.le_refl _
      · have := ih.2.2 j (by omega)
        omega
theorem x_key (h : At T g un hs sl hl σ) {c : Nat} (hc : c < tN T) : (∃ σ', M_X8_key σ (nI c) 0 = some ((kyN T g c (ln g c)).2, σ') ∧ At T g un hs sl hl σ') ∧ ∃ σ', M_X8_key σ (nI c) 1 = some (if (kyN T g c (ln g c)).1 = 0 then -2 else nI (kyN T g c (ln g c)).1, σ') ∧ At T g un hs sl hl σ' := by
  obtain ⟨t, l, τ, σ', hQ, ht, h4, p1, p2, p3, hKC⟩ := x_play h hc
  have n5 := h.n5
  have lx := ln_facts h.inv (show c < 5 by omega)
  have lw := h.lnW hc
  have run : ∀ (kk : Nat) (dd i k : Nat) (σi : Wd), i + dd = ln g c → dd < k → KC σ σi → PlC T g c 108 σi → ∃ σ2, iter (fun s : Int32 × Int32 × Int32 × Wd => M_X8_key_L44 (nI kk) s.1 s.2.1 s.2.2.1 s.2.2.2) k (nI (kyN T g c i).1, (kyN T g c i).2, nI i, σi) = some (nI (kyN T g c (ln g c)).1, (kyN T g c (ln g c)).2, σ2) ∧ KC σ σ2 := by
    intro kk dd
    induction dd with
    | zero =>
      intro i k σi hi hk hkc hpl
      obtain ⟨k', rfl⟩ : ∃ k', k = k' + 1 := ⟨k - 1, by omega⟩
      obtain rfl : i = ln g c := by omega
      refine ⟨σi, it_x ?_, hkc⟩
      show M_X8_key_L44 (nI kk) _ _ (nI (ln g c)) σi = _
      unfold M_X8_key_L44
      rw [hpl.1, if_pos ((nI_leI (by omega) (by omega)).mpr (Nat.le_refl _))]
    | succ dd ih =>
      intro i k σi hi hk hkc hpl
      obtain ⟨k', rfl⟩ : ∃ k', k = k' + 1 := ⟨k - 1, by omega⟩
      have hle : ¬ nI (ln g c) ≤ nI i := fun z => by have := (nI_leI (by omega) (by omega)).mp z; omega
      have hQi := hQ.kc hkc
      obtain ⟨_, h4i, _, _, _, _, _⟩ := gR_mid hQi.1
      obtain ⟨σ2, w1, w2, w3, w4⟩ := c_weigh hQi (q := 108) (by decide) (show c < 5 by omega) hpl (show i < ln g c by omega)
      have hcl := cH_le (T := T) (g := g) (f := lf g c) (p := i) (ln g c)
      have hkb := (kyN_bd (T := T) (g := g) (c := c) i).1
      have hpl2 := FW.pl hpl w2
      have ci : ib (nI i) 60 := (ib_nI (by omega)).mpr (by omega)
      have xi : ix (nI i) = i := ix_nI (by omega)
      obtain ⟨σ3, z1, z2⟩ := ih (i + 1) k' σ2 (by omega) (by omega) (hkc.trans (w2.kc (by decide))) hpl2
      refine ⟨σ3, (it_s ?_).trans z1, z2⟩
      show M_X8_key_L44 (nI kk) (nI (kyN T g c i).1) (kyN T g c i).2 (nI i) σi = _
      have e : kyN T g c (i + 1) = if cH T g (lf g c) i (ln g c) ≤ (kyN T g c i).1 then kyN T g c i else (cH T g (lf g c) i (ln g c), nI (lf g c i)) := rfl
      unfold M_X8_key_L44
      rw [hpl.1, if_neg hle, h4i, chk_pos ht, w1, bnd1_some, w3, nI_1, lt_eq, lt_eq, chk_pos ci, xi, show gI σ2 (108 + 3) i = nI (lf g c i) from hpl2.2.1 i (by omega), lt_eq, lt_eq, e]
      by_cases q : cH T g (lf g c) i (ln g c) ≤ (kyN T g c i).1
      · rw [if_pos ((nI_leI (by omega) (by omega)).mpr q), if_pos q]
      · rw [if_neg (fun z => q ((nI_leI (by omega) (by omega)).mp z)), if_neg q]
  have fin : ∀ kk, kk < 2 → ∃ σ2, M_X8_key σ (nI c) (nI kk) = (if (kyN T g c (ln g c)).2 ≠ (-2 : Int32) then (if nI kk ≠ 0 then some (nI (kyN T g c (ln g c)).1, σ2) else some ((kyN T g c (ln g c)).2, σ2)) else some ((-2 : Int32), σ2)) ∧ KC σ σ2 := fun kk hkk => by
    obtain ⟨σ2, z1, z2⟩ := run kk (ln g c) 0 FU σ' (by omega) (FU_big (by omega)) hKC p3
    refine ⟨σ2, ?_, z2⟩
    unfold M_X8_key
    rw [x_isCopy h hc, bnd1_some, if_neg n10, if_neg (nI_n0 (by omega)), if_pos (show nI kk ≤ 1 from (nI_leI (b := 1) (by omega) (by decide)).mpr (by omega)), h4, chk_pos ht, p1, bnd1_some, show ((0 : Int32), (-2 : Int32), (0 : Int32), σ') = (nI (kyN T g c 0).1, (kyN T g c 0).2, nI 0, σ') from rfl, z1, bnd1_some]
    rfl
  have kb := (kyN_bd (T := T) (g := g) (c := c) (ln g c)).2.1
  have hne : (kyN T g c (ln g c)).1 ≠ 0 → (kyN T g c (ln g c)).2 ≠ -2 := fun z0 => by
    rcases kb with ⟨z, _⟩ | ⟨_, j, hj, e, _⟩
    · exact absurd z z0
    · rw [e]
      have := lx.1 j hj
      exact fun z => nI_n0 (show lf g c j < 2 ^ 31 by omega) (by rw [z]; decide)
  obtain ⟨σa, a1, a2⟩ := fin 0 (by decide)
  obtain ⟨σb, b1, b2⟩ := fin 1 (by decide)
  refine ⟨⟨σa, ?_, h.kc a2⟩, σb, ?_, h.kc b2⟩
  · rw [show (0 : Int32) = nI 0 from rfl, a1]
    by_cases z0 : (kyN T g c (ln g c)).1 = 0
    · have : (kyN T g c (ln g c)).2 = -2 := by
        rcases kb with ⟨_, z⟩ | ⟨z, _⟩
        · exact z
        · exact absurd z0 z
      rw [this, if_neg (fun z => z rfl)]
    · rw [if_pos (hne z0), if_neg (show ¬ nI 0 ≠ 0 by decide)]
  · rw [show (1 : Int32) = nI 1 from rfl, b1]
    by_cases z0 : (kyN T g c (ln g c)).1 = 0
    · have : (kyN T g c (ln g c)).2 = -2 := by
        rcases kb with ⟨_, z⟩ | ⟨z, _⟩
        · exact z
        · exact absurd z0 z
      rw [this, if_neg (fun z => z rfl), if_pos z0]
    · rw [if_pos (hne z0), if_pos (show nI 1 ≠ 0 by decide), if_neg z0]
end XC
