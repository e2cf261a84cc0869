/-! a float constant by ldc_w -/
theorem x_ldcfw {ρ : Type} {K : Kt} {Z : Zt} {cc : ByteArray} {own : String} {fr lo : Nat} {prog : Option ρ} {E : ρ → Prop} {σ : Wd} {L : List (Nat × Value)} {rest : List Value} (C : Fx K Z cc own fr lo) (pc : Nat) {index : Nat} {v : UInt32} (d : decode cc pc = .ok (.ldc_w index, 3)) (hw : Cond.constantFloat own index v ∈ gw_tbl) (k : Y K Z prog E σ (pc + 3) L (.float v :: rest)) : Y K Z prog E σ pc L rest := by
  refine Y.of ?_ k
  obtain ⟨p, l, e, R, s, m, args, below, meth, c, nL, Q, ce0, sl0⟩ := K
  obtain ⟨hx, hb, hml, hown, hts, hK, hZ, hlk, hfr, hlo, hzx, hok, hce, hsl⟩ := C
  intro g H locs ls hP hS hl
  intro T hT X
  obtain ⟨t, a, b⟩ := g H locs ls hP hS hl T hT X
  refine ⟨t, ?_, b⟩
  obtain ⟨k0, cf, hk, hcf, hcp⟩ := Cond.constantFloat_spec hown (hts _ hw)
  obtain ⟨k', hk', he⟩ := X.warmed.alike.2.2 _ _ hk
  have hd : decode c.code pc = .ok (.ldc_w index, 3) := by rw [hb]; exact d
  jvm_step X.here [hx, hd, ldc_w.wp_float (s := T) (f := F0 m pc ls rest) X.here.top hk' (by rw [he]; exact hcf) hcp]
  exact a
