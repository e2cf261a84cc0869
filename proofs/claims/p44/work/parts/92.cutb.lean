/-! the model cuts all -/
def RwM (u : Nat → Nat) (e k : Nat) (τ : Wd) : Prop := gI τ 3 k = nI (kTk u e k) ∧ gI τ 4 k = nI (sq u e k) ∧ (kTk u e k = 1 → gL τ 6 k = lN (vTk u e k)) ∧ (kTk u e k = 2 → gI τ 5 k = nI (vTk u e k))
def TokM (u : Nat → Nat) (e : Nat) (τ : Wd) : Prop := ∀ k, k ≤ 400 → Rch u e k → RwM u e k τ
theorem TG.trans {a b c : Wd} (h : TG a b) (h2 : TG b c) : TG a c := ⟨fun x p q r s => (h2.1 x p q r s).trans (h.1 x p q r s), fun x p => (h2.2.1 x p).trans (h.2.1 x p), h2.2.2.1.trans h.2.2.1, fun j hj => (h2.2.2.2 j hj).trans (h.2.2.2 j hj)⟩
theorem RwM_tk {u : Nat → Nat} {e k j K V P : Nat} {τ τ' : Wd} (h : RwM u e j τ) (hj : j ≠ k) (ht : TkM k K V P τ τ') : RwM u e j τ' := by
  obtain ⟨_, _, a, _⟩ := ht
  obtain ⟨a1, a2, a3, a4⟩ := a j hj
  unfold RwM at h ⊢
  rw [a1, a2, a3, a4]
  exact h
theorem m_cut {u : Nat → Nat} {e : Nat} {τ : Wd} (hB : ByM u e τ) : ∃ τ', M_X9_cut τ = some τ' ∧ TG τ τ' ∧ TokM u e τ' := by
  have he := hB.1
  unfold M_X9_cut
  simp only [lt_eq]
  have f0 : TG τ (uI τ 0 10 0) := TG.wI (Or.inl ⟨rfl, rfl⟩) TG.refl
  obtain ⟨x, h1, h2⟩ := ow_iter (body := fun s : Int32 × Wd => M_X9_cut_L7 s.1 s.2) (Q := fun x => ∃ k τ', k ≤ 401 ∧ Rch u e k ∧ TG τ τ' ∧ gI τ' 0 10 = nI k ∧ (∀ j, j < k → RwM u e j τ') ∧ ((x = .inl τ' ∧ k ≤ 400 ∧ sq u e k = e) ∨ (x = .inr τ' ∧ k = 401))) (fun m s => ∃ v k τ', m = e - v ∧ v ≤ e ∧ s = (nI v, τ') ∧ k ≤ 401 ∧ Rch u e k ∧ rn (fun i => isBn (u i)) e v = sq u e k ∧ TG τ τ' ∧ gI τ' 0 10 = nI k ∧ (∀ j, j < k → RwM u e j τ')) (fun m s ⟨v, k, τ', hm, hv, hs, hk, hR, hsq, hf, h10, hrw⟩ => by
    subst hs
    show ow (M_X9_cut_L7 (nI v) τ') _
    have hB' := ByM_TG hB hf
    by_cases hk4 : k = 401
    · unfold M_X9_cut_L7
      rw [h10, if_pos (show (400 : Int32) < nI k from (nI_ltI (a := 400) (by omega) (by omega)).mpr (by omega))]
      exact ow_some.mpr ⟨k, τ', hk, hR, hf, h10, hrw, Or.inr ⟨rfl, hk4⟩⟩
    · by_cases hve : v < e
      · cases hb : isBn (u v) with
        | true =>
          have hrn := rn_go (P := fun i => isBn (u i)) hve hb
          have fin : M_X9_cut_L7 (nI v) τ' = some (.inl (nI (v + 1), τ')) := by
            obtain ⟨b1, b2⟩ := m_byte hB' (i := v) (by omega)
            have hu : uz u e v = u v := if_pos hve
            rw [hu] at b1 b2
            unfold M_X9_cut_L7
            rw [h10, if_neg (show ¬ (400 : Int32) < nI k from fun z => by have := (nI_ltI (a := 400) (by omega) (by omega)).mp z; omega), b1, bnd1_some, hB'.2.1, if_pos ((nI_ltI (by omega) (by omega)).mpr hve)]
            simp only [lt_eq]
            rw [nI_1]
            unfold isBn at hb
            by_cases a1 : nI (u v) = 9
            · rw [if_pos a1]
            · rw [if_neg a1]
              by_cases a2 : nI (u v) = 10
              · rw [if_pos a2]
              · rw [if_neg a2]
                by_cases a3 : nI (u v) = 13
                · rw [if_pos a3]
                · rw [if_neg a3]
                  by_cases a4 : nI (u v) = 32
                  · rw [if_neg (fun z => z a4)]
                  · exfalso
                    rw [decide_eq_false (fun z => a1 (by rw [z]; rfl)), decide_eq_false (fun z => a2 (by rw [z]; rfl)), decide_eq_false (fun z => a3 (by rw [z]; rfl)), decide_eq_false (fun z => a4 (by rw [z]; rfl))] at hb
                    exact Bool.noConfusion hb
          rw [fin]
          exact ow_some.mpr ⟨e - (v + 1), by omega, v + 1, k, τ', rfl, by omega, rfl, hk, hR, hrn.symm.trans hsq, hf, h10, hrw⟩
        | false =>
          have hrn := rn_st (P := fun i => isBn (u i)) (e := e) (p := v) (fun z => by rw [hb] at z; exact Bool.noConfusion z.2)
          have hv2 : v = sq u e k := by rw [← hsq, hrn]
          obtain ⟨τ2, t1, t2⟩ := m_one hB' h10 (by omega) hve hb
          rw [t1]
          have q := tkQ_bd (u := u) hve
          have hsk : sq u e k < e := by omega
          refine ow_some.mpr ⟨e - tkQ u e v, by omega, tkQ u e v, k + 1, τ2, rfl, q.2, rfl, by omega, fun j hj => ?_, ?_, hf.trans t2.1, t2.2.1, fun j hj => ?_⟩
          · by_cases e0 : j = k
            · rw [e0]; exact hsk
            · exact hR j (by omega)
          · show _ = rn (fun i => isBn (u i)) e (tkQ u e (sq u e k))
            rw [hv2]
          · by_cases e0 : j = k
            · subst e0
              obtain ⟨_, _, _, c1, c2, c3, c4⟩ := t2
              have eK : kTk u e j = tkK u e (sq u e j) := if_pos hsk
              unfold RwM vTk
              rw [eK, ← hv2]
              exact ⟨c1, c2, c3, c4⟩
            · exact RwM_tk (hrw j (by omega)) e0 t2
      · have hve2 : v = e := by omega
        have hse : sq u e k = e := by rw [← hsq, rn_st (P := fun i => isBn (u i)) (e := e) (p := v) (fun z => hve z.1), hve2]
        obtain ⟨b1, b2⟩ := m_byte hB' (i := v) (by omega)
        unfold M_X9_cut_L7
        rw [h10, if_neg (show ¬ (400 : Int32) < nI k from fun z => by have := (nI_ltI (a := 400) (by omega) (by omega)).mp z; omega), b1, bnd1_some, hB'.2.1, if_neg (fun z => hve ((nI_ltI (by omega) (by omega)).mp z))]
        exact ow_some.mpr ⟨k, τ', hk, hR, hf, h10, hrw, Or.inl ⟨rfl, by omega, hse⟩⟩) FU (e - 0) ((0 : Int32), uI τ 0 10 0) (FU_big (by omega)) ⟨0, 0, _, rfl, Nat.zero_le _, rfl, by omega, fun j hj => absurd hj (Nat.not_lt_zero j), rfl, f0, gI_s, fun j hj => absurd hj (Nat.not_lt_zero j)⟩
  rw [show iter (fun s : Int32 × Wd => M_X9_cut_L7 s.1 s.2) FU ((0 : Int32), uI τ 0 10 0) = some x from h1, bnd1_some]
  obtain ⟨k, τ', hk, hR, hf, h10, hrw, hx⟩ := h2
  rcases hx with ⟨rfl, hk4, hse⟩ | ⟨rfl, hk4⟩
  · show ∃ τ'', (bnd1 (M_X9_token τ' 0 (gI τ' 0 4) 0 0) fun s_39 => some s_39) = some τ'' ∧ _
    have hB' := ByM_TG hB hf
    rw [hB'.2.1, m_token h10 (by omega), bnd1_some]
    have tt : TkM k 0 0 e τ' (tokW τ' k 0 (nI e) 0 0) := TkM_mk (K := 0) (V := 0) (fun z => absurd z (by decide)) (fun z => absurd z (by decide))
    refine ⟨_, rfl, hf.trans tt.1, fun j hj hRj => ?_⟩
    by_cases e0 : j = k
    · subst e0
      obtain ⟨_, _, _, c1, c2, c3, c4⟩ := tt
      have eK : kTk u e j = 0 := if_neg (by omega)
      unfold RwM
      rw [eK, hse]
      exact ⟨c1, c2, fun z => absurd z (by decide), fun z => absurd z (by decide)⟩
    · have hlt : j < k := Classical.byContradiction fun q => by
        have := hRj k (by omega)
        omega
      exact RwM_tk (hrw j hlt) e0 tt
  · exact ⟨τ', rfl, hf, fun j hj _ => hrw j (by omega)⟩
