/-! the state between two things told -/
def TIw (T : Td) : Prop := 1 ≤ tN T ∧ tN T ≤ 5 ∧ tP T ≤ 4 ∧ tS T ≤ 9999 ∧ ∀ f, f < tF T → tL T f ≤ 1 ∧ tT T f < tC T ∧ tE T f ≤ tC T ∧ ∀ p, p < 4 → (p < 3 ∨ tE T f ≠ 0) → wfC (tC T) (tX T f p) 0
def Tw (g l s c f : Nat) (σ τ : Wd) : Prop := ∃ T : Td, TCs T g s σ ∧ TMs T l s τ ∧ tC T = c ∧ tF T = f ∧ TIw T
def Top (u : Nat → Nat) (e n0 g l P fl s c f : Nat) (NV NA : Nat → Nat) (σ0 τ0 σ τ : Wd) : Prop :=
  Bs u e n0 g l P fl 0 σ0 τ0 σ τ ∧ (gI σ g 13 = nI s ∧ gI τ 0 33 = nI (420 * l + s) ∧ gI τ 0 12 = 0 ∧ s ≤ P) ∧
  (gI σ g 3 = nI c ∧ gI σ g 4 = nI f ∧ gI τ 12 l = nI c ∧ gI τ 14 l = nI f ∧ c ≤ 6 ∧ f ≤ 6) ∧ Nm (c + f) (c + f) c fl NV NA σ τ ∧ (fl = 0 → Tw g l s c f σ τ)
def TopX (u : Nat → Nat) (e n0 g l P : Nat) (σ0 τ0 σ τ : Wd) : Prop := FLT g l σ0 τ0 σ τ ∨ ∃ P' fl s c f NV NA, P < P' ∧ Top u e n0 g l P' fl s c f NV NA σ0 τ0 σ τ
/-- a number of the text set anew -/
def nuT (T : Td) (j n : Nat) : Td := (fun a b => if a = j ∧ b = 0 then n else T.1 a b, T.2.1, T.2.2)
theorem TCs_num {T : Td} {g s j n : Nat} {σ σ' : Wd} (hj : j < 3) (h : TCs T g s σ) (hn : gI σ' g j = nI n) (e : ∀ c k, g ≤ c → c ≤ g + 8 → ¬ (c = g ∧ k = j) → gI σ' c k = gI σ c k) : TCs (nuT T j n) g s σ' := by
  obtain ⟨⟨⟨a1, a2, a3, a4, a5⟩, b, c⟩, d⟩ := h
  have e0 : ∀ k, k ≠ j → gI σ' g k = gI σ g k := fun k hk => e g k (by omega) (by omega) (fun z => hk z.2)
  have en : ∀ i, 1 ≤ i → i ≤ 8 → gI σ' (g + i) = gI σ (g + i) := fun i h1 h8 => funext fun k => e (g + i) k (by omega) (by omega) (fun z => by omega)
  have c' : ∀ f, f < tF T → gI σ' (g + 2) f = nI (tL T f) ∧ gI σ' (g + 3) f = nI (tT T f) ∧ gI σ' (g + 4) f = (if tE T f = 0 then -1 else nI (tE T f - 1)) ∧ ∀ p, p < 4 → (p < 3 ∨ tE T f ≠ 0) → ∃ a, gI σ' (g + 5) (4 * f + p) = nI a ∧ gI σ' (g + 6) (4 * f + p) = nI (a + (tX T f p).length) ∧ a + (tX T f p).length ≤ 400 ∧ CC (tX T f p) a (gI σ' (g + 7)) (gI σ' (g + 8)) := by
    rw [en 2 (by omega) (by omega), en 3 (by omega) (by omega), en 4 (by omega) (by omega), en 5 (by omega) (by omega), en 6 (by omega) (by omega), en 7 (by omega) (by omega), en 8 (by omega) (by omega)]
    exact c
  have d' : ∀ f, f < tF T → ∀ p, p < 4 → (p < 3 ∨ tE T f ≠ 0) → ∃ b, b ≤ s ∧ gI σ' (g + 6) (4 * f + p) = nI b := by
    rw [en 6 (by omega) (by omega)]
    exact d
  have b' : ∀ i, i < tC T → gI σ' (g + 1) i = tI T i := by
    rw [en 1 (by omega) (by omega)]
    exact b
  rcases (show j = 0 ∨ j = 1 ∨ j = 2 by omega) with rfl | rfl | rfl
  · exact ⟨⟨⟨hn, (e0 1 (by omega)).trans a2, (e0 2 (by omega)).trans a3, (e0 3 (by omega)).trans a4, (e0 4 (by omega)).trans a5⟩, b', c'⟩, d'⟩
  · exact ⟨⟨⟨(e0 0 (by omega)).trans a1, hn, (e0 2 (by omega)).trans a3, (e0 3 (by omega)).trans a4, (e0 4 (by omega)).trans a5⟩, b', c'⟩, d'⟩
  · exact ⟨⟨⟨(e0 0 (by omega)).trans a1, (e0 1 (by omega)).trans a2, hn, (e0 3 (by omega)).trans a4, (e0 4 (by omega)).trans a5⟩, b', c'⟩, d'⟩
theorem TMs_num {T : Td} {l s K lo hi j R n : Nat} {τ τ' : Wd} (hK : nK K lo hi j R) (h : TMs T l s τ) (hn : gI τ' R l = nI n) (e : ∀ c k, 10 ≤ c → c ≤ 21 → ¬ (c = R ∧ k = l) → gI τ' c k = gI τ c k) : TMs (nuT T j n) l s τ' := by
  obtain ⟨⟨⟨a1, a2, a3, a4, a5⟩, b, c⟩, d⟩ := h
  have hR : R = 10 ∨ R = 11 ∨ R = 19 := by unfold nK at hK; omega
  have en : ∀ i, 12 ≤ i → i ≤ 21 → i ≠ 19 → gI τ' i = gI τ i := fun i h1 h2 h8 => funext fun k => e i k (by omega) (by omega) (fun z => by omega)
  have c' : ∀ f, f < tF T → gI τ' 15 (6 * l + f) = (if tL T f = 1 then 13 else 5) ∧ gI τ' 16 (6 * l + f) = nI (tT T f) ∧ gI τ' 17 (6 * l + f) = (if tE T f = 0 then -1 else nI (tE T f - 1)) ∧ ∀ p, p < 4 → (p < 3 ∨ tE T f ≠ 0) → ∃ a, gI τ' 18 (5 * (6 * l + f) + p) = nI a ∧ gI τ' 18 (5 * (6 * l + f) + p + 1) = nI (a + (tX T f p).length) ∧ (a + (tX T f p).length ≤ 840 ∧ 420 * l ≤ a ∧ a + (tX T f p).length ≤ 420 * l + 420) ∧ CM (tX T f p) a (gI τ' 20) (gI τ' 21) := by
    rw [en 15 (by omega) (by omega) (by omega), en 16 (by omega) (by omega) (by omega), en 17 (by omega) (by omega) (by omega), en 18 (by omega) (by omega) (by omega), en 20 (by omega) (by omega) (by omega), en 21 (by omega) (by omega) (by omega)]
    exact c
  have d' : ∀ f, f < tF T → ∀ p, p < 4 → (p < 3 ∨ tE T f ≠ 0) → ∃ b, b ≤ 420 * l + s ∧ gI τ' 18 (5 * (6 * l + f) + p + 1) = nI b := by
    rw [en 18 (by omega) (by omega) (by omega)]
    exact d
  have b' : ∀ i, i < tC T → gI τ' 13 (6 * l + i) = tI T i := by
    rw [en 13 (by omega) (by omega) (by omega)]
    exact b
  have e0 : ∀ c, 10 ≤ c → c ≤ 21 → c ≠ R → gI τ' c l = gI τ c l := fun c h1 h2 hk => e c l h1 h2 (fun z => hk z.1)
  rcases hK with ⟨_, _, _, rfl, rfl⟩ | ⟨_, _, _, rfl, rfl⟩ | ⟨_, _, _, rfl, rfl⟩
  · exact ⟨⟨⟨hn, (e0 11 (by omega) (by omega) (by omega)).trans a2, (e0 19 (by omega) (by omega) (by omega)).trans a3, (e0 12 (by omega) (by omega) (by omega)).trans a4, (e0 14 (by omega) (by omega) (by omega)).trans a5⟩, b', c'⟩, d'⟩
  · exact ⟨⟨⟨(e0 10 (by omega) (by omega) (by omega)).trans a1, hn, (e0 19 (by omega) (by omega) (by omega)).trans a3, (e0 12 (by omega) (by omega) (by omega)).trans a4, (e0 14 (by omega) (by omega) (by omega)).trans a5⟩, b', c'⟩, d'⟩
  · exact ⟨⟨⟨(e0 10 (by omega) (by omega) (by omega)).trans a1, (e0 11 (by omega) (by omega) (by omega)).trans a2, hn, (e0 12 (by omega) (by omega) (by omega)).trans a4, (e0 14 (by omega) (by omega) (by omega)).trans a5⟩, b', c'⟩, d'⟩
theorem Tw_num {g l s c f K lo hi j R n : Nat} {σ τ σ' τ' : Wd} (hK : nK K lo hi j R) (hlo : lo ≤ n) (hhi : n ≤ hi) (h : Tw g l s c f σ τ) (hn : gI σ' g j = nI n) (hm : gI τ' R l = nI n) (e1 : ∀ c k, g ≤ c → c ≤ g + 8 → ¬ (c = g ∧ k = j) → gI σ' c k = gI σ c k) (e2 : ∀ c k, 10 ≤ c → c ≤ 21 → ¬ (c = R ∧ k = l) → gI τ' c k = gI τ c k) : Tw g l s c f σ' τ' := by
  obtain ⟨T, t1, t2, t3, t4, t5, t6, t7, t8, t9⟩ := h
  refine ⟨nuT T j n, TCs_num (by unfold nK at hK; omega) t1 hn e1, TMs_num hK t2 hm e2, ?_⟩
  rcases hK with ⟨_, rfl, rfl, rfl, rfl⟩ | ⟨_, rfl, rfl, rfl, rfl⟩ | ⟨_, rfl, rfl, rfl, rfl⟩
  · exact ⟨t3, t4, hlo, hhi, t7, t8, t9⟩
  · exact ⟨t3, t4, t5, t6, hhi, t8, t9⟩
  · exact ⟨t3, t4, t5, t6, t7, hhi, t9⟩
section TPN
variable {u : Nat → Nat} {e n0 g l P fl s c f : Nat} {NV NA : Nat → Nat} {σ0 τ0 σ τ : Wd}
theorem top_number (he : e ≤ 2000) {K lo hi j R : Nat} (hK : nK K lo hi j R) (h : Top u e n0 g l P fl s c f NV NA σ0 τ0 σ τ) (hk : kTk u e P = K) : ∃ σ' τ', M_X3_tellNumber σ (nI (ck K)) = some σ' ∧ tlM τ lo hi R = some τ' ∧ TopX u e n0 g l P σ0 τ0 σ' τ' := by
  obtain ⟨hB, ⟨s1, s2, s3, s4⟩, ⟨d1, d2, d3, d4, d5, d6⟩, hN, hT⟩ := h
  have hg := hB.2.1.2.2.2.2.2.1
  have hl := hB.2.2.1.2.2.2.2.1
  obtain ⟨σ', τ', q1, q2, q3⟩ := tell_number he hK hB hk
  refine ⟨σ', τ', q1, q2, ?_⟩
  rcases q3 with q | ⟨fl', n, w1, w2, w3, w4, w5, w6, w7, w8⟩
  · exact Or.inl q
  · have hj : j < 3 := by unfold nK at hK; omega
    have hR : R = 10 ∨ R = 11 ∨ R = 19 := by unfold nK at hK; omega
    have hgc : ∀ k, k ≠ j → gI σ' g k = gI σ g k := fun k hk => w5 g k (by omega) (by omega) (fun z => hk z.2)
    have hmc : ∀ c k, 10 ≤ c → ¬ (c = R ∧ k = l) → gI τ' c k = gI τ c k := fun c k h1 h2 => w7 c k (by omega) h2
    refine Or.inr ⟨P + 3, fl', s, c, f, NV, NA, by omega, w1, ⟨(hgc 13 (by omega)).trans s1, (w7 0 33 (by omega) (by omega)).trans s2, (w7 0 12 (by omega) (by omega)).trans s3, by omega⟩, ⟨(hgc 3 (by omega)).trans d1, (hgc 4 (by omega)).trans d2, (hmc 12 l (by omega) (by omega)).trans d3, (hmc 14 l (by omega) (by omega)).trans d4, d5, d6⟩, ?_, fun z => ?_⟩
    · exact Nm_eq (σ' := σ') (τ' := τ') hN (w5 2 3 (by omega) (by omega) (by omega)) (w7 0 20 (by omega) (by omega)) (by rw [w6]) (funext fun k => w5 4 k (by omega) (by omega) (by omega)) (by rw [w8]) (funext fun k => w7 9 k (by omega) (by omega)) (fun z => (w2 z).1)
    · obtain ⟨v1, v2, v3⟩ := w2 z
      exact Tw_num hK v2 v3 (hT v1) w3 w4 (fun c k h1 h2 h3 => w5 c k (by omega) (by omega) h3) (fun c k h1 h2 h3 => hmc c k h1 h3)
end TPN
