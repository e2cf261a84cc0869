/-! rows that the class wants besides -/
section XR2
variable {ρ : Type} {K : Kt} {Z : Zt} {cc : ByteArray} {own : String} {fr lo : Nat} {prog progA progB : Option ρ} {E : ρ → Prop} {σ : Wd} {L : List (Nat × Value)} {rest : List Value}
theorem Y_none {pc : Nat} {st : List Value} : Y K Z (none : Option ρ) E σ pc L st := fun q h => by cases h
theorem x_lsub (C : Fx K Z cc own fr lo) (pc : Nat) {x y : Int64} (d : decode cc pc = .ok (.lsub, 1)) (k : Y K Z prog E σ (pc + 1) L (.long (x - y) :: rest)) : Y K Z prog E σ pc L (.long y :: .long x :: rest) := by
  refine Y.of ?_ k
  obtain ⟨p, l, e, R, s, m, args, below, meth, c, nL, Q, ce0, sl0⟩ := K
  obtain ⟨hx, hb, hml, hown, hts, hK, hZ, hlk, hfr, hlo, hzx, hok, hce, hsl⟩ := C
  intro g H locs ls hP hS hl
  exact lv_lsub hx hb d (g H locs ls hP hS hl)
theorem x_lushr (C : Fx K Z cc own fr lo) (pc : Nat) {x : Int64} {y : Int32} (d : decode cc pc = .ok (.lushr, 1)) (k : Y K Z prog E σ (pc + 1) L (.long ((x.toUInt64 >>> (y.toInt64.toUInt64 &&& 63)).toInt64) :: rest)) : Y K Z prog E σ pc L (.int y :: .long x :: rest) := by
  refine Y.of ?_ k
  obtain ⟨p, l, e, R, s, m, args, below, meth, c, nL, Q, ce0, sl0⟩ := K
  obtain ⟨hx, hb, hml, hown, hts, hK, hZ, hlk, hfr, hlo, hzx, hok, hce, hsl⟩ := C
  intro g H locs ls hP hS hl
  exact lv_lushr hx hb d rfl (g H locs ls hP hS hl)
theorem x_bret1 {r0 r : Int32} (C : Fx K Z cc own fr lo) (R0 : Rt K Z (some .byte) (some (.int r)) σ) (pc : Nat) (hz01 : narrow .byte (.int r0) = .int r0) (d : decode cc pc = .ok (.ireturn, 1)) : Y K Z (some r0) (fun q => q = r) σ pc L [.int r0] := by
  intro q h1 h2
  cases h1
  cases h2
  obtain ⟨p, l, e, R, s, m, args, below, meth, c, nL, Q, ce0, sl0⟩ := K
  obtain ⟨hx, hb, hml, hown, hts, hK, hZ, hlk, hfr, hlo, hzx, hok, hce, hsl⟩ := C
  obtain ⟨⟨rfl, rfl⟩, hQ, hr⟩ := R0
  subst hQ
  intro H locs ls hP hS hl
  exact W.zret hx hb hr hz01 (fun t ht hW => ⟨rfl, zU_at hok hzx hK hZ hP hS t ht hW, hS.F ht⟩) hS.2.2 d hlk
/-- a row of an array of references -/
theorem x_ald (C : Fx K Z cc own fr lo) (pc : Nat) {i n t0 : Nat} {ty : FieldType} {j : Int32} {a : Nat} {cA : ClassId} {f : Nat → Option Nat} (hi : i < zN Z) (hc : zY Z i σ = .inl (cA, n, .inr (.inr (.inr (.inr f))))) (ht : (zT Z)[t0]? = some (cA, ty)) (hty : ty.isReference = true) (hj : ib j n) (ha : f (ix j) = some a) (d : decode cc pc = .ok (.aaload, 1)) (k : Y K Z prog E σ (pc + 1) L (.ref a :: rest)) : Y K Z prog E σ pc L (.int j :: .ref (zA Z i) :: rest) := by
  refine Y.of ?_ k
  obtain ⟨p, l, e, R, s, m, args, below, meth, c, nL, Q, ce0, sl0⟩ := K
  obtain ⟨hx, hb, hml, hown, hts, hK, hZ, hlk, hfr, hlo, hzx, hok, hce, hsl⟩ := C
  intro g H locs ls hP hS hl
  have hlt : ix j < n := Nat.not_le.mp fun q => hj (Or.inr q)
  have hv : (arrV cA n (fun j => va_rf (f j))).slots[ix j]? = some (.ref a) := by rw [arrV_read _ _ hlt, ha]; rfl
  exact W.aald (v := .ref a) (ty := ty) hx hb (hP i _ (zW_e hi hc)) ((hK.2 t0 _ ht).1 n (fun j => va_rf (f j))) hty (fun q => by cases q) (by show ¬ (j < 0 ∨ (arrV _ _ _).slots.size ≤ _); rw [arrV_size]; exact hj) hv rfl rfl d (g H locs ls hP hS hl)
end XR2
theorem lsw_out4 {x d a1 a2 a3 a4 o1 o2 o3 o4 : Int} (h1 : ¬ x = a1) (h2 : ¬ x = a2) (h3 : ¬ x = a3) (h4 : ¬ x = a4) : Op.lookupswitch.offset [(a1, o1), (a2, o2), (a3, o3), (a4, o4)] d x = d := by
  rw [Op.lookupswitch.offset_cons, if_neg (fun e => h1 e.symm), Op.lookupswitch.offset_cons, if_neg (fun e => h2 e.symm), Op.lookupswitch.offset_cons, if_neg (fun e => h3 e.symm), Op.lookupswitch.offset_cons, if_neg (fun e => h4 e.symm)]
  rfl
