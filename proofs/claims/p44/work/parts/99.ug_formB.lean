/-! the text told: forms whole, all that is told -/
/-- what a form's word says: four terms, the sign, the cell set, the other cell and 1 (0: none) -/
abbrev Fw : Type := (Nat × Nat × Nat) × (Nat × Nat × Nat) × (Nat × Nat × Nat) × (Nat × Nat × Nat) × Nat × Nat × Nat
def TrmOk (v : Int32) (nc : Nat) (x : Nat × Nat × Nat) : Prop := (v &&& (7 : Int32) = nI x.1 ∧ x.1 < 8) ∧ ((v >>> ((3 : Int32) &&& 31)) &&& (3 : Int32) = nI x.2.1 ∧ x.2.1 < 4) ∧ (((v >>> ((5 : Int32) &&& 31)) &&& (255 : Int32)) - ((v >>> ((5 : Int32) &&& 31)) &&& (255 : Int32)) / nI nc * nI nc = nI x.2.2 ∧ x.2.2 < nc)
abbrev fwS (x : Fw) : Nat := x.2.2.2.2.1
abbrev fwT (x : Fw) : Nat := x.2.2.2.2.2.1
abbrev fwE (x : Fw) : Nat := x.2.2.2.2.2.2
def FwOk (v p q : Int32) (nc : Nat) (x : Fw) : Prop := TrmOk (v >>> ((2 : Int32) &&& 31)) nc x.1 ∧ TrmOk (((v * (3 : Int32)) + p) >>> ((3 : Int32) &&& 31)) nc x.2.1 ∧ TrmOk (((v * (5 : Int32)) + q) >>> ((2 : Int32) &&& 31)) nc x.2.2.1 ∧ TrmOk (((v * (7 : Int32)) + p) >>> ((2 : Int32) &&& 31)) nc x.2.2.2.1 ∧ (sgF1 v = nI (fwS x) ∧ (fwS x = 60 ∨ fwS x = 61)) ∧ (hwB v (nI nc) = nI (fwT x) ∧ fwT x < nc) ∧ (fwE x ≤ nc ∧ (fwE x = 0 → hwC v (nI nc) < 0) ∧ (fwE x ≠ 0 → hwC v (nI nc) = nI (fwE x - 1)))
theorem fw_n (v p q : Int32) {nc : Nat} (h1 : 1 ≤ nc) (h4 : nc ≤ 4) : ∃ x : Fw, FwOk v p q nc x := by
  obtain ⟨xa, ha⟩ := trm_n (v >>> ((2 : Int32) &&& 31)) h1 h4
  obtain ⟨xb, hb⟩ := trm_n (((v * (3 : Int32)) + p) >>> ((3 : Int32) &&& 31)) h1 h4
  obtain ⟨xc, hc⟩ := trm_n (((v * (5 : Int32)) + q) >>> ((2 : Int32) &&& 31)) h1 h4
  obtain ⟨xd, hd⟩ := trm_n (((v * (7 : Int32)) + p) >>> ((2 : Int32) &&& 31)) h1 h4
  obtain ⟨tb, htb, etb⟩ := rem255 (x := v >>> ((1 : Int32) &&& 31)) (m := nc) h1 (by omega)
  obtain ⟨te, hte, ete⟩ := rem255 (x := v >>> ((4 : Int32) &&& 31)) (m := nc) h1 (by omega)
  obtain ⟨sg, hsg, esg⟩ : ∃ sg, sgF1 v = nI sg ∧ (sg = 60 ∨ sg = 61) := by
    unfold sgF1
    by_cases h : hwA v = 1
    · exact ⟨60, by rw [if_pos h]; rfl, Or.inl rfl⟩
    · exact ⟨61, by rw [if_neg h]; rfl, Or.inr rfl⟩
  by_cases h : ((v >>> ((3 : Int32) &&& 31)) &&& (1 : Int32)) = 0
  · exact ⟨(xa, xb, xc, xd, sg, tb, 0), ha, hb, hc, hd, ⟨hsg, esg⟩, ⟨etb, htb⟩, Nat.zero_le _, fun _ => by unfold hwC; rw [if_pos h]; decide, fun z => absurd rfl z⟩
  · exact ⟨(xa, xb, xc, xd, sg, tb, te + 1), ha, hb, hc, hd, ⟨hsg, esg⟩, ⟨etb, htb⟩, hte, fun z => absurd z (Nat.succ_ne_zero _), fun _ => by unfold hwC; rw [if_neg h]; exact ete⟩
def elL (x : Fw) : List Int32 := if fwE x = 0 then [] else pw 5 543517811 1694498816 0 ++ ceL (fwE x - 1) ++ tmX x.2.2.2.1
def foW (f : Nat) (x : Fw) : List Int32 := foL f (fwS x) (fwT x) x.1 x.2.1 x.2.2.1 ++ (elL x ++ [nI 59])
def fsL (D : Nat → Fw) : Nat → Nat → List Int32
  | 0, _ => []
  | k + 1, f => foW f (D f) ++ fsL D k (f + 1)
theorem el_l {x : Fw} : (elL x).length ≤ 33 := by
  have p3 := pw_l (m := 5) (a := 543517811) (b := 1694498816) (c := 0)
  have a1 : (tmX x.2.2.2.1).length ≤ 24 := tm_l
  unfold elL
  split
  · exact Nat.zero_le _
  · simp only [List.length_append, ce_l]; omega
theorem foW_l {f : Nat} {x : Fw} : (foW f x).length ≤ 129 := by
  have a1 := el_l (x := x)
  have a2 := fo_l (f := f) (sg := fwS x) (tb := fwT x) (xa := x.1) (xb := x.2.1) (xc := x.2.2.1)
  unfold foW
  simp only [List.length_append, sg_l]
  omega
theorem TP.toldF {σ0 τ0 : Wd} {f8 : Nat → Int32} {p q : Int32} {nc : Nat} {D : Nat → Fw} (h4 : nc ≤ 4) (hn : tdCel p = nI nc) (hD : ∀ f, FwOk (f8 f) p q nc (D f)) : ∀ (k f : Nat) (ts : List Int32) (σ τ : Wd), f + k ≤ 4 → ts.length + 130 * k + 160 ≤ 2000 → TP ts σ0 τ0 σ τ → ∃ σ' τ', M_told_F f8 p q k f σ = some σ' ∧ TP (ts ++ fsL D k f) σ0 τ0 σ' τ' := by
  intro k
  induction k with
  | zero =>
    intro f ts σ τ _ _ h
    exact ⟨σ, τ, rfl, by show TP (ts ++ []) _ _ _ _; rw [List.append_nil]; exact h⟩
  | succ k ih =>
    intro f ts σ τ hf ht h
    have hx := hD f
    obtain ⟨ha, hb, hc, hd, ⟨hs1, hs2⟩, ⟨ht1, ht2⟩, he1, he2, he3⟩ := hx
    have lf := fo_l (f := f) (sg := fwS (D f)) (tb := fwT (D f)) (xa := (D f).1) (xb := (D f).2.1) (xc := (D f).2.2.1)
    obtain ⟨σ1, τ1, h1, e1⟩ := h.formA (f8 := f8) (p := p) (q := q) (f := f) (k := k) (nc := nc) (sg := fwS (D f)) (tb := fwT (D f)) (xa := (D f).1) (xb := (D f).2.1) (xc := (D f).2.2.1) (by omega) h4 hn (by omega) hs1 (by omega) (by rw [hn]; exact ht1) (by omega) (fun h h2 => h.termN h2 h4 ha) (fun h h2 => h.termN h2 h4 hb) (fun h h2 => h.termN h2 h4 hc)
    rw [e1, hn]
    have fin : ∀ {ts' : List Int32} {σ' τ' : Wd}, ts' = ts ++ foL f (fwS (D f)) (fwT (D f)) (D f).1 (D f).2.1 (D f).2.2.1 ++ elL (D f) → TP ts' σ0 τ0 σ' τ' → ∃ σ'' τ'', (bnd1 (M_L_sign σ' (59 : Int32)) fun s_567 => M_told_F f8 p q k (f + 1) s_567) = some σ'' ∧ TP (ts ++ fsL D (k + 1) f) σ0 τ0 σ'' τ'' := fun {ts' σ' τ'} et h' => by
      have le := el_l (x := D f)
      have l' : ts'.length ≤ ts.length + 128 := by rw [et]; simp only [List.length_append]; omega
      obtain ⟨σa, τa, ea, ha'⟩ := h'.sign (b := 59) (by decide) (by omega)
      obtain ⟨σb, τb, eb, hb'⟩ := ih (f + 1) _ σa τa (by omega) (by simp only [List.length_append, sg_l]; omega) ha'
      refine ⟨σb, τb, by rw [show M_L_sign σ' 59 = _ from ea, bnd1_some]; exact eb, ?_⟩
      show TP (ts ++ (foW f (D f) ++ fsL D k (f + 1))) _ _ _ _
      unfold foW
      rw [et] at hb'
      simp only [List.append_assoc] at hb' ⊢
      exact hb'
    by_cases z : fwE (D f) = 0
    · rw [if_pos (he2 z)]
      refine fin ?_ h1
      unfold elL
      rw [if_pos z, List.append_nil]
    · have p5 := pw_l (m := 5) (a := 543517811) (b := 1694498816) (c := 0)
      have e3 := he3 z
      rw [e3, if_neg (nI_pos (by omega))]
      obtain ⟨σ2, τ2, e2, h2⟩ := h1.words 5 543517811 1694498816 0 (by decide) (by simp only [List.length_append]; omega)
      obtain ⟨σ3, τ3, e3', h3⟩ := h2.cellL (k := fwE (D f) - 1) (by omega) (by simp only [List.length_append]; omega)
      obtain ⟨σ4, τ4, e4, h4'⟩ := h3.termN (by simp only [List.length_append, ce_l]; omega) h4 hd
      rw [show M_L_put σ1 5 543517811 1694498816 0 0 0 = _ from e2, bnd1_some, e3', bnd1_some, e4, bnd1_some]
      refine fin ?_ h4'
      unfold elL
      rw [if_neg z]
      simp only [List.append_assoc]
      rfl
/-- all that is told -/
def txL (sd n pr nc nf : Nat) (fv : Nat → Nat) (D : Nat → Fw) : List Int32 := pw 5 1936024932 536870912 0 ++ (dgN sd ++ (pw 8 996372336 1768256288 0 ++ (dgN n ++ (pw 9 997225065 1835102841 536870912 ++ (dgN pr ++ ([nI 59] ++ (csL fv nc 0 ++ fsL D nf 0)))))))
theorem cs_l {fv : Nat → Nat} : ∀ k i, (csL fv k i).length ≤ 13 * k := by
  intro k
  induction k with
  | zero => intro i; exact Nat.le_refl _
  | succ k ih =>
    intro i
    have := ih (i + 1)
    have p4 := pw_l (m := 4) (a := 1667591276) (b := 0) (c := 0)
    have dl := dg_l (v := fv i)
    show (pw 4 1667591276 0 0 ++ (ceL i ++ (dgN (fv i) ++ ([nI 59] ++ csL fv k (i + 1))))).length ≤ _
    simp only [List.length_append, ce_l, sg_l]
    omega
theorem fs_l {D : Nat → Fw} : ∀ k f, (fsL D k f).length ≤ 129 * k := by
  intro k
  induction k with
  | zero => intro i; exact Nat.le_refl _
  | succ k ih =>
    intro f
    have := ih (f + 1)
    have := foW_l (f := f) (x := D f)
    show (foW f (D f) ++ fsL D k (f + 1)).length ≤ _
    simp only [List.length_append]
    omega
theorem tx_l {sd n pr nc nf : Nat} {fv : Nat → Nat} {D : Nat → Fw} (h1 : nc ≤ 4) (h2 : nf ≤ 4) : (txL sd n pr nc nf fv D).length ≤ 700 := by
  have p1 := pw_l (m := 5) (a := 1936024932) (b := 536870912) (c := 0)
  have p2 := pw_l (m := 8) (a := 996372336) (b := 1768256288) (c := 0)
  have p3 := pw_l (m := 9) (a := 997225065) (b := 1835102841) (c := 536870912)
  have d1 := dg_l (v := sd)
  have d2 := dg_l (v := n)
  have d3 := dg_l (v := pr)
  have c1 := cs_l (fv := fv) nc 0
  have f1 := fs_l (D := D) nf 0
  unfold txL
  simp only [List.length_append, sg_l]
  omega
theorem told_all {σ0 τ0 σ τ : Wd} {f8 : Nat → Int32} {p q : Int32} {sd n pr nc nf : Nat} {fv : Nat → Nat} {D : Nat → Fw} (h : TP [] σ0 τ0 σ τ) (hsd : tdSeed p = nI sd) (hsd2 : sd < 1024) (hn : tdCop q = nI n) (hn2 : n ≤ 5) (hpr : tdPri p q = nI pr) (hpr2 : pr < 5) (hnc : tdCel p = nI nc) (hnc2 : nc ≤ 4) (hnf : tdFor p q = nI nf) (hnf2 : nf ≤ 4) (hfv : ∀ i, tdFirst q (nI i) = nI (fv i) ∧ fv i < 12) (hD : 0 < nf → ∀ f, FwOk (f8 f) p q nc (D f)) : ∃ σ' τ', M_L_told f8 p q σ = some σ' ∧ TP (txL sd n pr nc nf fv D) σ0 τ0 σ' τ' := by
  have p1 := pw_l (m := 5) (a := 1936024932) (b := 536870912) (c := 0)
  have p2 := pw_l (m := 8) (a := 996372336) (b := 1768256288) (c := 0)
  have p3 := pw_l (m := 9) (a := 997225065) (b := 1835102841) (c := 536870912)
  have d1 := dg_l (v := sd)
  have d2 := dg_l (v := n)
  have d3 := dg_l (v := pr)
  have c1 := cs_l (fv := fv) nc 0
  have l0 : ([] : List Int32).length = 0 := rfl
  obtain ⟨s1, t1, e1, h1⟩ := h.words 5 1936024932 536870912 0 (by decide) (by rw [l0]; omega)
  obtain ⟨s2, t2, e2, h2⟩ := h1.number (v := sd) hsd2 (by simp only [List.length_append, l0]; omega)
  obtain ⟨s3, t3, e3, h3⟩ := h2.words 8 996372336 1768256288 0 (by decide) (by simp only [List.length_append, l0]; omega)
  obtain ⟨s4, t4, e4, h4⟩ := h3.number (v := n) (by omega) (by simp only [List.length_append, l0]; omega)
  obtain ⟨s5, t5, e5, h5⟩ := h4.words 9 997225065 1835102841 536870912 (by decide) (by simp only [List.length_append, l0]; omega)
  obtain ⟨s6, t6, e6, h6⟩ := h5.number (v := pr) (by omega) (by simp only [List.length_append, l0]; omega)
  obtain ⟨s7, t7, e7, h7⟩ := h6.sign (b := 59) (by decide) (by simp only [List.length_append, l0]; omega)
  obtain ⟨s8, t8, e8, h8⟩ := TP.toldC hfv nc 0 _ _ _ (by omega) (by simp only [List.length_append, l0, sg_l]; omega) h7
  obtain ⟨s9, t9, e9, h9⟩ : ∃ σ' τ', M_told_F f8 p q nf 0 s8 = some σ' ∧ TP (([] ++ pw 5 1936024932 536870912 0 ++ dgN sd ++ pw 8 996372336 1768256288 0 ++ dgN n ++ pw 9 997225065 1835102841 536870912 ++ dgN pr ++ [nI 59] ++ csL fv nc 0) ++ fsL D nf 0) σ0 τ0 σ' τ' := by
    by_cases z : 0 < nf
    · exact TP.toldF hnc2 hnc (hD z) nf 0 _ s8 t8 (by omega) (by simp only [List.length_append, l0, sg_l]; omega) h8
    · have z : nf = 0 := by omega
      subst z
      refine ⟨s8, t8, rfl, ?_⟩
      show TP (_ ++ []) _ _ _ _
      rw [List.append_nil]
      exact h8
  refine ⟨s9, t9, ?_, ?_⟩
  · unfold M_L_told
    rw [show M_L_put σ 5 1936024932 536870912 0 0 0 = _ from e1, bnd1_some, hsd, e2, bnd1_some, show M_L_put s2 8 996372336 1768256288 0 0 0 = _ from e3, bnd1_some, hn, e4, bnd1_some, show M_L_put s4 9 997225065 1835102841 536870912 0 0 = _ from e5, bnd1_some, hpr, e6, bnd1_some, show M_L_sign s6 59 = _ from e7, bnd1_some, hnc, ix_nI (by omega), e8, bnd1_some, hnf, ix_nI (by omega)]
    exact e9
  · unfold txL
    simp only [List.append_assoc, List.nil_append] at h9 ⊢
    exact h9
