/-! what a meeting brings -/
theorem lgN_P {g : Gs} {R R' : Nat → Bool} {k : Nat} : ∀ W, (∀ w, w < W → R' w = R w) → lgN g R' k W = lgN g R k W := by
  intro W
  induction W with
  | zero => intro _; rfl
  | succ w ih =>
    intro h
    have e := ih (fun v hv => h v (by omega))
    show (if R' w = true then (inN (lgN g R' k w).1 (poN g (lgN g R' k w).1 k w (lgN g R' k w).2) w, (lgN g R' k w).2 + 1) else lgN g R' k w) = (if R w = true then (inN (lgN g R k w).1 (poN g (lgN g R k w).1 k w (lgN g R k w).2) w, (lgN g R k w).2 + 1) else lgN g R k w)
    rw [e, h w (by omega)]
theorem lgN_none {g : Gs} {R : Nat → Bool} {k : Nat} : ∀ W, (∀ w, w < W → R w = false) → lgN g R k W = (fun i => gD g i, k) := by
  intro W
  induction W with
  | zero => intro _; rfl
  | succ w ih =>
    intro h
    show (if R w = true then _ else lgN g R k w) = _
    rw [if_neg (by rw [h w (by omega)]; decide)]
    exact ih (fun v hv => h v (by omega))
theorem knN_cong {g g' : Gs} {w : Nat} (hD : ∀ x, gD g' x = gD g x) : ∀ k, knN g' w k = knN g w k := by
  intro k
  induction k with
  | zero => rfl
  | succ k ih =>
    show (knN g' w k || decide (gD g' k = w)) = (knN g w k || decide (gD g k = w))
    rw [ih, hD]
theorem poN_cong {g g' : Gs} {f : Nat → Nat} {k w : Nat} (hN : ∀ x, gN g' x = gN g x) (hS : ∀ x, gS g' x = gS g x) : ∀ p, poN g' f k w p = poN g f k w p := by
  intro p
  induction p with
  | zero => rfl
  | succ p ih =>
    have e : ltr g' (f p) w ↔ ltr g (f p) w := by
      show (gS g' w < gS g' (f p) ∨ (gS g' (f p) = gS g' w ∧ gN g' w < gN g' (f p))) ↔ _
      rw [hS, hS, hN, hN]
    show (if k < p + 1 ∧ ltr g' (f p) w then poN g' f k w p else p + 1) = (if k < p + 1 ∧ ltr g (f p) w then poN g f k w p else p + 1)
    by_cases hc : k < p + 1 ∧ ltr g (f p) w
    · rw [if_pos hc, if_pos ⟨hc.1, e.mpr hc.2⟩]; exact ih
    · rw [if_neg hc, if_neg (fun z => hc ⟨z.1, e.mp z.2⟩)]
theorem lgN_cong {g g' : Gs} {R : Nat → Bool} {k : Nat} (hD : ∀ x, gD g' x = gD g x) (hN : ∀ x, gN g' x = gN g x) (hS : ∀ x, gS g' x = gS g x) : ∀ W, lgN g' R k W = lgN g R k W := by
  intro W
  induction W with
  | zero => show (fun i => gD g' i, k) = (fun i => gD g i, k); rw [show (fun i => gD g' i) = (fun i => gD g i) from funext hD]
  | succ w ih =>
    show (if R w = true then (inN (lgN g' R k w).1 (poN g' (lgN g' R k w).1 k w (lgN g' R k w).2) w, (lgN g' R k w).2 + 1) else lgN g' R k w) = (if R w = true then (inN (lgN g R k w).1 (poN g (lgN g R k w).1 k w (lgN g R k w).2) w, (lgN g R k w).2 + 1) else lgN g R k w)
    rw [ih, poN_cong hN hS]
/-- a log is told by the writes, the order, the set alone -/
theorem lg_cong {g g' : Gs} {P P' : Nat → Bool} {k : Nat} (hD : ∀ x, gD g' x = gD g x) (hN : ∀ x, gN g' x = gN g x) (hS : ∀ x, gS g' x = gS g x) (hW : gW g' = gW g) (hP : ∀ w, w < gW g → P' w = P w) : lgf g' P' k = lgf g P k ∧ lgn g' P' k = lgn g P k := by
  have e : lgN g' (lgR g' P' k) k (gW g') = lgN g (lgR g P k) k (gW g) := by
    rw [hW, lgN_cong hD hN hS]
    exact lgN_P _ (fun w hw => by show (P' w && !knN g' w k) = (P w && !knN g w k); rw [hP w hw, knN_cong hD])
  unfold lgf lgn
  rw [e]
  exact ⟨rfl, rfl⟩
theorem Mid.kq {T : Td} {g0 g : Gs} {σ1 τ0 σ τ τ' : Wd} (h : Mid T g0 σ1 τ0 g σ τ) (k : KQ τ τ') : Mid T g0 σ1 τ0 g σ τ' := by
  obtain ⟨a, b, c, d, e, f, i⟩ := h
  exact ⟨a, b.trans k.1, k.2.2.trans c, d, e, by rw [k.2.1]; exact f, i⟩
theorem Mid.ba {T : Td} {g0 g : Gs} {σ1 τ0 σ τ : Wd} {a : Nat} {F : Nat → Int32} (h : Mid T g0 σ1 τ0 g σ τ) (ha : a = 35 ∨ a = 36) : Mid T g0 σ1 τ0 g (rI σ a F) τ := by
  obtain ⟨⟨a1, a2, a3⟩, b, c, d, e, f, i⟩ := h
  refine ⟨⟨fun q hq hd => ⟨(rI_ne (by omega)).trans (a1 q hq hd).1, (a1 q hq hd).2⟩, fun w hw => ?_, fun j hj => (gI_rI_n (by omega)).trans (a3 j hj)⟩, b, c, d, CA_eq (fun j q1 q2 => rI_ne (by omega)) e, f, i⟩
  obtain ⟨b1, b2, b3, b4⟩ := a2 w hw
  exact ⟨(gI_rI_n (by omega)).trans b1, (gI_rI_n (by omega)).trans b2, (gI_rI_n (by omega)).trans b3, (gI_rI_n (by omega)).trans b4⟩
theorem m_shuts_o {τ : Wd} {c H : Nat} (hc : c < 5) (h4 : gI τ 26 4 = nI H) (hH : H < 100) : ∃ f, M_X9_shuts τ (nI c) = some (rI τ 26 f) := by
  unfold M_X9_shuts
  rw [show (4 : Int32) = nI 4 from rfl, m_adds hc (by decide), bnd1_some, m_sh]
  simp only [bnd1_some, un1, lt_eq]
  rw [chk_pos (by decide), chk_pos (by decide), chk_pos (by decide), chk_pos (by decide)]
  unfold uI
  simp only [rI_rI, rI_at]
  by_cases hq : (8 : Int32) ≤ gI (rI τ 26 (upd (shN (upd (τ.1 26) (15 + 6 * c + 4) (gI τ 26 (15 + 6 * c + 4) + 1)) 5 0) (ix (5 : Int32)) (nI c))) 26 (ix (nI 4))
  · rw [if_pos hq]
    exact ⟨_, rfl⟩
  · rw [if_neg hq]
    exact ⟨_, rfl⟩
theorem m_have_at {τ : Wd} {c w v : Nat} (hc : c < 5) (hw : w < 60) (hv : v ≤ 1) (h : gI τ 26 (470 + 60 * c + w) = nI v) : M_X9_doesHave τ (nI c) (nI w) = some (if v = 1 then 1 else 0) := by
  unfold M_X9_doesHave
  simp (disch := omega) only [i_lit, pk_mul, nI_add, ib_nI, ix_nI, nI_leI, nI_ltI, nI_eq, ne_eq]
  rw [chk_pos (by omega), h]
  by_cases ha : v = 1
  · rw [ha, if_pos rfl]
    rfl
  · rw [show v = 0 by omega, if_pos (show ¬ nI 0 = nI 1 by decide)]
    rfl
/-- the row behind what is brought, of the first w writes -/
def brF (g : Gs) (a b : Nat) (r : Nat → Int32) (w : Nat) : Nat → Int32 := fun j => if 470 + 60 * b ≤ j ∧ j < 470 + 60 * b + w ∧ gA g a (j - (470 + 60 * b)) = 1 then 1 else r j
theorem brF_o {g : Gs} {a b w j : Nat} {r : Nat → Int32} (h : j < 470 + 60 * b ∨ 470 + 60 * b + w ≤ j) : brF g a b r w j = r j := if_neg (by omega)
theorem brF_0 {g : Gs} {a b : Nat} {r : Nat → Int32} : brF g a b r 0 = r := funext fun j => if_neg (by omega)
theorem brF_s {g : Gs} {a b w : Nat} {r : Nat → Int32} (h : gA g a w = 1) : upd (brF g a b r w) (470 + 60 * b + w) 1 = brF g a b r (w + 1) := by
  funext j
  by_cases hj : j = 470 + 60 * b + w
  · subst hj
    rw [pk_us]
    exact (if_pos ⟨by omega, by omega, by rw [show 470 + 60 * b + w - (470 + 60 * b) = w by omega]; exact h⟩).symm
  · rw [pk_un hj]
    show (if 470 + 60 * b ≤ j ∧ j < 470 + 60 * b + w ∧ gA g a (j - (470 + 60 * b)) = 1 then 1 else r j) = (if 470 + 60 * b ≤ j ∧ j < 470 + 60 * b + (w + 1) ∧ gA g a (j - (470 + 60 * b)) = 1 then 1 else r j)
    by_cases hc : 470 + 60 * b ≤ j ∧ j < 470 + 60 * b + w ∧ gA g a (j - (470 + 60 * b)) = 1
    · rw [if_pos hc, if_pos ⟨hc.1, by omega, hc.2.2⟩]
    · rw [if_neg hc, if_neg (fun z => hc ⟨z.1, by omega, z.2.2⟩)]
theorem brF_n {g : Gs} {a b w : Nat} {r : Nat → Int32} (h : gA g a w ≠ 1 ∨ r (470 + 60 * b + w) = 1) : brF g a b r w = brF g a b r (w + 1) := by
  funext j
  show (if 470 + 60 * b ≤ j ∧ j < 470 + 60 * b + w ∧ gA g a (j - (470 + 60 * b)) = 1 then 1 else r j) = (if 470 + 60 * b ≤ j ∧ j < 470 + 60 * b + (w + 1) ∧ gA g a (j - (470 + 60 * b)) = 1 then 1 else r j)
  by_cases hc : 470 + 60 * b ≤ j ∧ j < 470 + 60 * b + w ∧ gA g a (j - (470 + 60 * b)) = 1
  · rw [if_pos hc, if_pos ⟨hc.1, by omega, hc.2.2⟩]
  · rw [if_neg hc]
    by_cases hj : j = 470 + 60 * b + w
    · subst hj
      rcases h with h | h
      · rw [if_neg (fun z => h (by have := z.2.2; rwa [show 470 + 60 * b + w - (470 + 60 * b) = w by omega] at this))]
      · rw [h]
        by_cases h2 : 470 + 60 * b ≤ 470 + 60 * b + w ∧ 470 + 60 * b + w < 470 + 60 * b + (w + 1) ∧ gA g a (470 + 60 * b + w - (470 + 60 * b)) = 1
        · rw [if_pos h2]
        · rw [if_neg h2]
    · rw [if_neg (fun z => hc ⟨z.1, by omega, z.2.2⟩)]
section BR
variable {T : Td} {t l : Nat} {g : Gs} {σ τ : Wd}
theorem m_brings (h : Qd T t l g σ τ) {a b : Nat} (ha : a < 5) (hb : b < 5) (hab : a ≠ b) : M_X9_brings τ (nI a) (nI b) = some (if lkN g a b (gW g) = 0 then 0 else 1, rI τ 26 (brF g a b (τ.1 26) (gW g))) := by
  obtain ⟨hW, hO, hP, hn⟩ := q_bd h
  have hI := h.2.2.2.2.1
  have hA01 := hI.2.2.2.2.1
  have hA : ∀ c w, c < 5 → w < 60 → τ.1 26 (470 + 60 * c + w) = nI (gA g c w) := h.2.2.2.1.2.2.2.2.2.2
  obtain ⟨r, h1, h2⟩ := ow_for (body := fun s : Int32 × Int32 × Wd => M_X9_brings_L5 (nI a) (nI b) s.1 s.2.1 s.2.2) (Q := fun r => r = ((if lkN g a b (gW g) = 0 then (0 : Int32) else 1), rI τ 26 (brF g a b (τ.1 26) (gW g)))) (fun w s => s = ((if lkN g a b w = 0 then (0 : Int32) else 1), nI w, rI τ 26 (brF g a b (τ.1 26) w))) (gW g) (FU_big (by omega)) (fun w s hw hs => by
    subst hs
    show ow (M_X9_brings_L5 (nI a) (nI b) (if lkN g a b w = 0 then (0 : Int32) else 1) (nI w) (rI τ 26 (brF g a b (τ.1 26) w))) _
    have e1 : lkN g a b (w + 1) = if gA g a w = 1 ∧ gA g b w ≠ 1 then lkN g a b w + 1 else lkN g a b w := rfl
    unfold M_X9_brings_L5
    rw [chk_pos (by decide), gI_rI_s, brF_o (by left; show ix (0 : Int32) < _; rw [show ix (0 : Int32) = 0 from rfl]; omega), show τ.1 26 (ix (0 : Int32)) = nI (gW g) from h.2.2.2.1.1.1, if_neg (fun z => by have := (nI_leI (by omega) (by omega)).mp z; omega), m_have_at (v := gA g a w) ha (by omega) (hA01 a w) (by rw [gI_rI_s, brF_o (by omega)]; exact hA a w ha (by omega)), bnd1_some, m_have_at (v := gA g b w) hb (by omega) (hA01 b w) (by rw [gI_rI_s, brF_o (by omega)]; exact hA b w hb (by omega)), bnd1_some]
    simp only [lt_eq]
    rw [nI_1]
    by_cases hAa : gA g a w = 1
    · rw [if_pos hAa, if_neg n10]
      by_cases hAb : gA g b w = 1
      · rw [if_pos hAb, if_neg n10]
        refine ow_some.mpr ?_
        show _ = _
        rw [if_neg (show ¬ (gA g a w = 1 ∧ gA g b w ≠ 1) from fun z => z.2 hAb)] at e1
        rw [e1, brF_n (Or.inr (by rw [hA b w hb (by omega), hAb]; rfl))]
      · rw [if_neg hAb, if_pos rfl, show (470 : Int32) + 60 * nI b + nI w = nI (470 + 60 * b + w) by rw [show (470 : Int32) = nI 470 from rfl, show (60 : Int32) = nI 60 from rfl, pk_mul, nI_add, nI_add], chk_pos ((ib_nI (by omega)).mpr (by omega)), ix_nI (by omega), uI_rI, brF_s hAa]
        refine ow_some.mpr ?_
        show _ = _
        rw [if_pos (show gA g a w = 1 ∧ gA g b w ≠ 1 from ⟨hAa, hAb⟩)] at e1
        rw [e1, if_neg (show ¬ lkN g a b w + 1 = 0 by omega)]
    · rw [if_neg hAa, if_pos rfl]
      refine ow_some.mpr ?_
      show _ = _
      rw [if_neg (show ¬ (gA g a w = 1 ∧ gA g b w ≠ 1) from fun z => hAa z.1)] at e1
      rw [e1, brF_n (Or.inl hAa)]) (fun s hs => by
    subst hs
    show ow (M_X9_brings_L5 (nI a) (nI b) (if lkN g a b (gW g) = 0 then (0 : Int32) else 1) (nI (gW g)) (rI τ 26 (brF g a b (τ.1 26) (gW g)))) _
    unfold M_X9_brings_L5
    rw [chk_pos (by decide), gI_rI_s, brF_o (by left; show ix (0 : Int32) < _; rw [show ix (0 : Int32) = 0 from rfl]; omega), show τ.1 26 (ix (0 : Int32)) = nI (gW g) from h.2.2.2.1.1.1, if_pos ((nI_leI (by omega) (by omega)).mpr (Nat.le_refl _))]
    exact ow_some.mpr rfl) 0 ((0 : Int32), (0 : Int32), τ) (Nat.zero_le _) (by rw [brF_0, rI_self]; rfl)
  unfold M_X9_brings
  rw [show iter (fun s : Int32 × Int32 × Wd => M_X9_brings_L5 (nI a) (nI b) s.1 s.2.1 s.2.2) FU ((0 : Int32), (0 : Int32), τ) = some r from h1, h2]
  show chk (zb (if lkN g a b (gW g) = 0 then (0 : Int32) else 1)) _ = _
  rw [chk_pos (by by_cases q : lkN g a b (gW g) = 0; rw [if_pos q]; exact zb0; rw [if_neg q]; exact zb1)]
theorem bit_andn {x y : Int64} {w : Nat} (hw : w < 64) : (x &&& (y ^^^ (-1 : Int64))).toBitVec.getLsbD w = (x.toBitVec.getLsbD w && !y.toBitVec.getLsbD w) := by
  have e2 : (-1 : Int64).toBitVec.getLsbD w = true := bit_m1 ⟨w, hw⟩
  rw [Int64.toBitVec_and, BitVec.getLsbD_and, Int64.toBitVec_xor, BitVec.getLsbD_xor, e2, Bool.xor_true]
theorem i64_0 {x : Int64} : x = 0 ↔ ∀ w, w < 64 → x.toBitVec.getLsbD w = false := by
  constructor
  · intro h w hw
    subst h
    show (0#64).getLsbD w = false
    simp
  · intro h
    rw [← Int64.toBitVec_inj]
    apply BitVec.eq_of_getLsbD_eq
    intro w hw
    rw [h w hw]
    show false = (0#64).getLsbD w
    simp
theorem c_brings (h : Qd T t l g σ τ) {a b : Nat} (ha : a < 5) (hb : b < 5) : lg_cmp (gL σ 29 (6 + a) &&& (gL σ 29 (6 + b) ^^^ (-1 : Int64))) 0 = 0 ↔ lkN g a b (gW g) = 0 := by
  obtain ⟨hW, hO, hP, hn⟩ := q_bd h
  have hA := h.2.2.2.2.1.2.2.2.2.2.1
  rw [lg_cmp_eq, i64_0, lkN_0]
  constructor
  · intro z w hw hAa
    have := z w (by omega)
    rw [bit_andn (by omega), q_set h ha (by omega), q_set h hb (by omega)] at this
    simpa [hAa] using this
  · intro z w hw
    rw [bit_andn hw, q_set h ha hw, q_set h hb hw]
    by_cases hAa : gA g a w = 1
    · have := z w (hA a w hAa).1 hAa
      simp [this]
    · simp [hAa]
end BR
