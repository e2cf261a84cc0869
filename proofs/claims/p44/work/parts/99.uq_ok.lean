/-! the text told is read -/
theorem tdFs_at (q : Int32) : ∀ n k, k < n → n ≤ 6 → tdFs q n k = tdFirst q (nI k) := by
  intro n
  induction n with
  | zero => intro k h; exact absurd h (Nat.not_lt_zero k)
  | succ n ih =>
    intro k h hn
    show upd (tdFs q n) (ix (nI n)) (tdFirst q (nI n)) k = _
    rw [ix_nI (by omega)]
    unfold upd
    by_cases z : k = n
    · rw [if_pos z, z]
    · rw [if_neg z]; exact ih k (by omega) (by omega)
theorem begin_0 {σ1 : Wd} (h : M_X1_begin sg8 3 0 = some σ1) : gI σ1 0 1 = nI 0 := by
  rw [c_begin] at h
  rw [← Option.some.inj h]
  rfl
theorem sb_lt : ∀ b : Fin 128, sb b.val = nI b.val := by decide +kernel
theorem hwF_2 {v nc : Int32} : hwF v nc 2 = hwC v nc := by
  unfold hwF tm3
  rw [ix0, ix1, ix2]
  unfold upd
  rw [if_pos rfl]
theorem readOk (X : Nat → Int32) : ReadOk X := by
  obtain ⟨sd, hsd, esd⟩ := pk_andE (X 0 >>> ((2 : Int32) &&& 31)) (m := 1023) 10 rfl
  have esd : tdSeed (X 0) = nI sd := esd
  have hsd : sd < 1024 := hsd
  obtain ⟨n', hn', en⟩ := rem255 (x := X 1) (m := 5) (by decide) (by decide)
  obtain ⟨n, hn⟩ : ∃ n, n = 1 + n' := ⟨_, rfl⟩
  have en : tdCop (X 1) = nI n := by
    rw [hn, ← nI_add]
    exact congrArg (fun z => (1 : Int32) + z) en
  obtain ⟨pr, hpr, epr⟩ := rem255 (x := X 0) (m := n) (by omega) (by omega)
  have epr : tdPri (X 0) (X 1) = nI pr := by
    show ((X 0 &&& (255 : Int32)) - (X 0 &&& (255 : Int32)) / tdCop (X 1) * tdCop (X 1)) = nI pr
    rw [en]
    exact epr
  obtain ⟨nc, hnc, enc⟩ := rem255 (x := X 0 >>> ((3 : Int32) &&& 31)) (m := 5) (by decide) (by decide)
  have enc : tdCel (X 0) = nI nc := enc
  obtain ⟨nf', hnf', enf'⟩ := rem255 (x := X 1 >>> ((3 : Int32) &&& 31)) (m := 5) (by decide) (by decide)
  obtain ⟨nf, enf, hnf, hnf0⟩ : ∃ nf, tdFor (X 0) (X 1) = nI nf ∧ nf ≤ 4 ∧ (0 < nf → 0 < nc) := by
    unfold tdFor
    by_cases z : tdCel (X 0) = 0
    · exact ⟨0, by rw [if_pos z]; rfl, by decide, fun w => absurd w (Nat.lt_irrefl 0)⟩
    · refine ⟨nf', by rw [if_neg z]; exact enf', by omega, fun _ => Nat.pos_of_ne_zero (fun w => z (by rw [enc, w]; rfl))⟩
  obtain ⟨fv, hfv⟩ := first_n (X 1)
  obtain ⟨D, hD⟩ : ∃ D : Nat → Fw, 0 < nf → ∀ f, FwOk (smF X 8 f) (X 0) (X 1) nc (D f) := by
    by_cases z : 0 < nf
    · have q : ∀ f, ∃ x, FwOk (smF X 8 f) (X 0) (X 1) nc x := fun f => fw_n _ _ _ (hnf0 z) (by omega)
      exact ⟨fun f => (q f).choose, fun _ f => (q f).choose_spec⟩
    · exact ⟨fun _ => ((0, 0, 0), (0, 0, 0), (0, 0, 0), (0, 0, 0), 0, 0, 0), fun w => absurd w z⟩
  have hDi : 0 < nf → ∀ f, FwIn nc (D f) := fun z f => (hD z f).inR (by omega)
  -- told
  obtain ⟨σ1, τ1, τ2, τ3, τ4, h8, _, _, _, _, hR⟩ := init_Rel
  obtain ⟨T, t, l, tp, un, nx, g, hs, sl, hl, hAll⟩ := Rel_iff.mp hR
  have htp : tp = 0 := by
    have e1 := hAll.1.2.1
    rw [begin_0 h8] at e1
    have := hAll.1.1
    exact ((nI_eq (by omega) (by omega)).mp e1).symm
  subst htp
  have hTP0 : TP [] σ1 τ4 σ1 τ4 := ⟨⟨hAll.1, KT.refl, KT.refl⟩, fun i hi => absurd hi (Nat.not_lt_zero i)⟩
  obtain ⟨σ2, τ5, e2, hF, hb⟩ := told_all (f8 := smF X 8) hTP0 esd hsd en (by omega) epr (by omega) enc (by omega) enf hnf hfv hD
  have hR2 : Rel σ2 τ5 := Rel_FT hF.1 hF.2.1 hF.2.2 hAll
  -- its bytes
  have hlen : (txL sd n pr nc nf fv D).length = (txN sd n pr nc nf fv D).length := by rw [tx_map, List.length_map]
  obtain ⟨L, hL⟩ : ∃ L, L = txN sd n pr nc nf fv D := ⟨_, rfl⟩
  rw [← hL] at hlen
  have hTz := Tz.tx (u := fun i => L.getD i 0) (e := L.length) (sd := sd) (n := n) (pr := pr) hsd (by omega) (by omega) (show nc ≤ 4 by omega) hnf (fun i => (hfv i).2) hDi
  rw [← hL] at hTz
  have hTks := hTz.2 0 ⟨fun j hj => absurd hj (Nat.not_lt_zero j), 0, ⟨Nat.zero_add _, fun i hi => by rw [Nat.zero_add]⟩, rfl⟩
  have he : L.length ≤ 2000 := by rw [← hlen]; exact hF.1.1
  have hu : ∀ i, i < L.length → (fun i => L.getD i 0) i < 256 ∧ gI σ2 1 i = sb ((fun i => L.getD i 0) i) := fun i hi => by
    have h1 : L.getD i 0 < 128 := by
      rw [List.getD_eq_getElem?_getD, List.getElem?_eq_getElem hi]
      exact hTz.1 _ (List.getElem_mem hi)
    refine ⟨by show L.getD i 0 < 256; omega, ?_⟩
    rw [hb i (by rw [hlen]; exact hi), tx_map, ← hL]
    show (L.map nI).getD i 0 = sb (L.getD i 0)
    rw [show sb (L.getD i 0) = nI (L.getD i 0) from sb_lt ⟨_, h1⟩, List.getD_eq_getElem?_getD, List.getD_eq_getElem?_getD, List.getElem?_map, List.getElem?_eq_getElem hi]
    rfl
  have h01 : gI σ2 0 1 = nI L.length := by rw [← hlen]; exact hF.1.2.1
  have rd : ∀ g, g = 10 ∨ g = 19 → ∃ x, M_X3_readInto σ2 (nI L.length) g = some (0, x) ∧ gI x g 0 = nI n ∧ gI x g 1 = nI pr ∧ gI x g 3 = nI nc ∧ gI x g 4 = nI nf ∧ (∀ j, j < nc → gI x (g + 1) j = nI (fv j)) ∧ ∀ f, f < nf → gI x (g + 4) f = elV (D f) := fun g hg => c_reads hg he hu hTks (by omega) (by omega) hpr (by omega) hnf hDi
  -- read
  obtain ⟨T', g', x, σ3, hg, ex, e3, hTC, hTI, hAt⟩ := st_2x hR2 (fun g hg => by
    obtain ⟨x, q, _⟩ := rd g hg
    exact ⟨x, by rw [h01]; exact q⟩)
  obtain ⟨x', ex', r0, r1, r3, r4, r5, r6⟩ := rd g' hg
  rw [h01, ex'] at ex
  have exx : x' = x := congrArg Prod.snd (Option.some.inj ex)
  subst exx
  obtain ⟨i1, i2, i3, i4, i5, i6, i7⟩ := hTI
  obtain ⟨⟨t0, t1, t2, t3, t4⟩, t5, t6⟩ := hTC
  have k0 : n = tN T' := (nI_eq (by omega) (by omega)).mp (r0.symm.trans t0)
  have k1 : pr = tP T' := (nI_eq (by omega) (by omega)).mp (r1.symm.trans t1)
  have k3 : nc = tC T' := (nI_eq (by omega) (by omega)).mp (r3.symm.trans t3)
  have k4 : nf = tF T' := (nI_eq (by omega) (by omega)).mp (r4.symm.trans t4)
  refine ⟨T', σ1, σ2, σ3, fun _ => gB 0, fun _ => gB 0, fun _ => 0, h8, e2, e3, hAt, rfl, by rw [en, k0], by rw [enc, k3], by rw [enf, k4], by rw [epr, k1], by omega, by omega, fun z => by omega, fun k hk => ?_, fun f hf hE => ?_⟩
  · rw [enc, ix_nI (by omega), tdFs_at _ _ _ (by omega) (by omega), (hfv k).1, ← r5 k (by omega)]
    exact t5 k hk
  · have q1 := (t6 f hf).2.2.1
    rw [r6 f (by omega)] at q1
    have q2 := (i7 f hf).2.2.1
    rw [if_neg hE] at q1
    obtain ⟨_, _, _, _, _, _, y1, y2, y3⟩ := hD (by omega) f
    unfold elV at q1
    by_cases z : fwE (D f) = 0
    · rw [if_pos z] at q1
      exact absurd q1.symm (fun w => nI_n0 (show tE T' f - 1 < 2 ^ 31 by omega) (by rw [w]; decide))
    · rw [hwF_2, enc, y3 z]
      exact nI_n0 (by omega)
