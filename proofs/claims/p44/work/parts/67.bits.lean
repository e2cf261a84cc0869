/-! how many bits a long has: the JDK's own program, byte by byte -/
theorem land_cat {a b m n : Nat} (ha : a < 256) (hm : m < 256) : (a + 256 * b) &&& (m + 256 * n) = (a &&& m) + 256 * (b &&& n) := by
  apply Nat.eq_of_testBit_eq
  intro i
  have h3 : a &&& m < 2 ^ 8 := Nat.and_lt_two_pow a (show m < 2 ^ 8 by omega)
  rw [Nat.testBit_and, show a + 256 * b = 2 ^ 8 * b + a by omega, show m + 256 * n = 2 ^ 8 * n + m by omega, show (a &&& m) + 256 * (b &&& n) = 2 ^ 8 * (b &&& n) + (a &&& m) by omega, Nat.testBit_two_pow_mul_add b (show a < 2 ^ 8 by omega), Nat.testBit_two_pow_mul_add n (show m < 2 ^ 8 by omega), Nat.testBit_two_pow_mul_add _ h3]
  by_cases h : i < 8
  · rw [if_pos h, if_pos h, if_pos h, Nat.testBit_and]
  · rw [if_neg h, if_neg h, if_neg h, Nat.testBit_and]
def Mk (m : Nat) : Nat → Nat
  | 0 => 0
  | n + 1 => m + 256 * Mk m n
def byP (h : Nat → Nat) : Nat → Nat → Nat
  | 0, _ => 0
  | n + 1, x => h (x % 256) + 256 * byP h n (x / 256)
theorem sw_55 : ∀ y : Fin 256, ∀ t : Fin 2, (y.val / 2 + 128 * t.val) &&& 85 = (y.val / 2) &&& 85 := by decide +kernel
theorem sw_33 : ∀ y : Fin 256, ∀ t : Fin 4, (y.val / 4 + 64 * t.val) &&& 51 = (y.val / 4) &&& 51 := by decide +kernel
theorem sw_0f : ∀ y : Fin 256, ∀ t : Fin 5, y.val % 16 ≤ 4 → y.val / 16 ≤ 4 → (y.val + y.val / 16 + 16 * t.val) &&& 15 = (y.val + y.val / 16) &&& 15 := by decide +kernel
theorem by_55 : ∀ n x, (x / 2) &&& Mk 85 n = byP (fun y => (y / 2) &&& 85) n x := by
  intro n
  induction n with
  | zero => intro x; exact Nat.and_zero _
  | succ n ih =>
    intro x
    show (x / 2) &&& (85 + 256 * Mk 85 n) = ((x % 256 / 2) &&& 85) + 256 * byP (fun y => (y / 2) &&& 85) n (x / 256)
    rw [show x / 2 = (x % 256 / 2 + 128 * (x / 256 % 2)) + 256 * (x / 256 / 2) by omega, land_cat (by omega) (by omega), ih]
    congr 1
    exact sw_55 ⟨x % 256, by omega⟩ ⟨x / 256 % 2, by omega⟩
theorem by_33 : ∀ n x, (x / 4) &&& Mk 51 n = byP (fun y => (y / 4) &&& 51) n x := by
  intro n
  induction n with
  | zero => intro x; exact Nat.and_zero _
  | succ n ih =>
    intro x
    show (x / 4) &&& (51 + 256 * Mk 51 n) = ((x % 256 / 4) &&& 51) + 256 * byP (fun y => (y / 4) &&& 51) n (x / 256)
    rw [show x / 4 = (x % 256 / 4 + 64 * (x / 256 % 4)) + 256 * (x / 256 / 4) by omega, land_cat (by omega) (by omega), ih]
    congr 1
    exact sw_33 ⟨x % 256, by omega⟩ ⟨x / 256 % 4, by omega⟩
theorem by_33b : ∀ n x, x &&& Mk 51 n = byP (fun y => y &&& 51) n x := by
  intro n
  induction n with
  | zero => intro x; exact Nat.and_zero _
  | succ n ih =>
    intro x
    show x &&& (51 + 256 * Mk 51 n) = ((x % 256) &&& 51) + 256 * byP (fun y => y &&& 51) n (x / 256)
    rw [← ih, ← land_cat (by omega) (by omega), show x % 256 + 256 * (x / 256) = x by omega]
theorem by_id : ∀ n x, x < 256 ^ n → byP (fun y => y) n x = x := by
  intro n
  induction n with
  | zero => intro x h; show 0 = x; simp at h; omega
  | succ n ih =>
    intro x h
    show x % 256 + 256 * byP (fun y => y) n (x / 256) = x
    rw [ih _ (by rw [Nat.pow_succ] at h; omega)]
    omega
theorem by_add {a b : Nat → Nat} : ∀ n x, byP a n x + byP b n x = byP (fun y => a y + b y) n x := by
  intro n
  induction n with
  | zero => intro x; rfl
  | succ n ih =>
    intro x
    show (a (x % 256) + 256 * byP a n (x / 256)) + (b (x % 256) + 256 * byP b n (x / 256)) = (a (x % 256) + b (x % 256)) + 256 * byP (fun y => a y + b y) n (x / 256)
    rw [← ih]
    omega
theorem by_cong {a b : Nat → Nat} (h : ∀ y, y < 256 → a y = b y) : ∀ n x, byP a n x = byP b n x := by
  intro n
  induction n with
  | zero => intro x; rfl
  | succ n ih =>
    intro x
    show a (x % 256) + 256 * byP a n (x / 256) = b (x % 256) + 256 * byP b n (x / 256)
    rw [h _ (by omega), ih]
theorem by_lt {a : Nat → Nat} (h : ∀ y, y < 256 → a y < 256) : ∀ n x, byP a n x < 256 ^ n := by
  intro n
  induction n with
  | zero => intro x; show 0 < 256 ^ 0; omega
  | succ n ih =>
    intro x
    show a (x % 256) + 256 * byP a n (x / 256) < 256 ^ (n + 1)
    have h1 := h (x % 256) (by omega)
    have h2 := ih (x / 256)
    rw [Nat.pow_succ]
    omega
theorem by_by {a b : Nat → Nat} (h : ∀ y, y < 256 → b y < 256) : ∀ n x, byP a n (byP b n x) = byP (fun y => a (b y)) n x := by
  intro n
  induction n with
  | zero => intro x; rfl
  | succ n ih =>
    intro x
    have h1 := h (x % 256) (by omega)
    show a ((b (x % 256) + 256 * byP b n (x / 256)) % 256) + 256 * byP a n ((b (x % 256) + 256 * byP b n (x / 256)) / 256) = a (b (x % 256)) + 256 * byP (fun y => a (b y)) n (x / 256)
    rw [show (b (x % 256) + 256 * byP b n (x / 256)) % 256 = b (x % 256) by omega, show (b (x % 256) + 256 * byP b n (x / 256)) / 256 = byP b n (x / 256) by omega, ih]
theorem by_0f {k : Nat → Nat} (h : ∀ y, y < 256 → k y < 256 ∧ k y % 16 ≤ 4 ∧ k y / 16 ≤ 4) : ∀ n x, (byP k n x + byP k n x / 16) &&& Mk 15 n = byP (fun y => (k y + k y / 16) &&& 15) n x := by
  intro n
  induction n with
  | zero => intro x; exact Nat.and_zero _
  | succ n ih =>
    intro x
    have h1 := h (x % 256) (by omega)
    have h2 : byP k n (x / 256) % 16 ≤ 4 := by
      cases n with
      | zero => show 0 % 16 ≤ 4; omega
      | succ n =>
        show (k (x / 256 % 256) + 256 * byP k n (x / 256 / 256)) % 16 ≤ 4
        have := h (x / 256 % 256) (by omega)
        omega
    show (k (x % 256) + 256 * byP k n (x / 256) + (k (x % 256) + 256 * byP k n (x / 256)) / 16) &&& (15 + 256 * Mk 15 n) = ((k (x % 256) + k (x % 256) / 16) &&& 15) + 256 * byP (fun y => (k y + k y / 16) &&& 15) n (x / 256)
    rw [show k (x % 256) + 256 * byP k n (x / 256) + (k (x % 256) + 256 * byP k n (x / 256)) / 16 = (k (x % 256) + k (x % 256) / 16 + 16 * (byP k n (x / 256) % 16)) + 256 * (byP k n (x / 256) + byP k n (x / 256) / 16) by omega, land_cat (by omega) (by omega), ih]
    congr 1
    exact sw_0f ⟨k (x % 256), h1.1⟩ ⟨byP k n (x / 256) % 16, by omega⟩ h1.2.1 h1.2.2
/-- of a byte -/
def pc1 (y : Nat) : Nat := y - ((y / 2) &&& 85)
def pc2 (y : Nat) : Nat := (pc1 y &&& 51) + ((pc1 y / 4) &&& 51)
def pc3 (y : Nat) : Nat := (pc2 y + pc2 y / 16) &&& 15
theorem pc_ok : ∀ y : Fin 256, ((y.val / 2) &&& 85) ≤ y.val ∧ pc1 y.val < 256 ∧ pc2 y.val < 256 ∧ pc2 y.val % 16 ≤ 4 ∧ pc2 y.val / 16 ≤ 4 ∧ pc3 y.val ≤ 8 ∧ pc3 y.val = cnN (fun i => y.val.testBit i) 8 := by decide +kernel
theorem pcn (x : Nat) (hx : x < 256 ^ 8) : ((x / 2) &&& Mk 85 8 ≤ x) ∧ x - ((x / 2) &&& Mk 85 8) = byP pc1 8 x := by
  have e := by_add (a := pc1) (b := fun y => (y / 2) &&& 85) 8 x
  have e3 := by_cong (a := fun y => pc1 y + ((y / 2) &&& 85)) (b := fun y => y) (fun y hy => by
    show pc1 y + ((y / 2) &&& 85) = y
    have h : (y / 2) &&& 85 ≤ y := (pc_ok ⟨y, hy⟩).1
    unfold pc1
    omega) 8 x
  rw [e3, by_id 8 x hx, ← by_55] at e
  clear hx
  generalize byP pc1 8 x = u at e ⊢
  generalize (x / 2) &&& Mk 85 8 = v at e ⊢
  omega
theorem pcn2 (x : Nat) : (byP pc1 8 x &&& Mk 51 8) + ((byP pc1 8 x / 4) &&& Mk 51 8) = byP pc2 8 x := by
  rw [by_33, by_33b, by_by (fun y hy => (pc_ok ⟨y, hy⟩).2.1), by_by (fun y hy => (pc_ok ⟨y, hy⟩).2.1), by_add]
  rfl
theorem pcn3 (x : Nat) : (byP pc2 8 x + byP pc2 8 x / 16) &&& Mk 15 8 = byP pc3 8 x := by
  rw [by_0f (fun y hy => ⟨(pc_ok ⟨y, hy⟩).2.2.1, (pc_ok ⟨y, hy⟩).2.2.2.1, (pc_ok ⟨y, hy⟩).2.2.2.2.1⟩)]
  rfl
def smB (h : Nat → Nat) : Nat → Nat → Nat
  | 0, _ => 0
  | n + 1, x => h (x % 256) + smB h n (x / 256)
theorem cnN_add {P : Nat → Bool} {a : Nat} : ∀ b, cnN P (a + b) = cnN P a + cnN (fun i => P (i + a)) b := by
  intro b
  induction b with
  | zero => rfl
  | succ b ih =>
    show (if P (a + b) = true then cnN P (a + b) + 1 else cnN P (a + b)) = cnN P a + (if P (b + a) = true then cnN (fun i => P (i + a)) b + 1 else cnN (fun i => P (i + a)) b)
    rw [ih, Nat.add_comm b a]
    by_cases h : P (a + b) = true
    · rw [if_pos h, if_pos h]; omega
    · rw [if_neg h, if_neg h]
theorem smB_cn : ∀ n x, smB pc3 n x = cnN (fun i => x.testBit i) (8 * n) := by
  intro n
  induction n with
  | zero => intro x; rfl
  | succ n ih =>
    intro x
    rw [show 8 * (n + 1) = 8 + 8 * n by omega, cnN_add]
    show pc3 (x % 256) + smB pc3 n (x / 256) = _
    rw [ih, show pc3 (x % 256) = cnN (fun i => (x % 256).testBit i) 8 from (pc_ok ⟨x % 256, by omega⟩).2.2.2.2.2.2]
    congr 1
    · refine cnN_eq 8 (fun i hi => ?_)
      show (x % 2 ^ 8).testBit i = x.testBit i
      rw [Nat.testBit_mod_two_pow]
      simp [hi]
    · congr 1
      funext i
      show (x / 2 ^ 8).testBit i = x.testBit (i + 8)
      exact Nat.testBit_div_two_pow x i
theorem by_le {a : Nat → Nat} {m : Nat} (h : ∀ y, a (y % 256) ≤ m) : ∀ n x, byP a n x ≤ m * Mk 1 n := by
  intro n
  induction n with
  | zero => intro x; exact Nat.zero_le _
  | succ n ih =>
    intro x
    show a (x % 256) + 256 * byP a n (x / 256) ≤ m * (1 + 256 * Mk 1 n)
    have h1 := h x
    have h2 := ih (x / 256)
    rw [Nat.mul_add, Nat.mul_left_comm]
    omega
theorem dv1 {p w : Nat} (h : p < 256) : (p + 256 * w) / 256 = w := by omega
theorem dv2 {p q w : Nat} (h : p < 256) (hq : q < 256) : (p + 256 * (q + 256 * w)) / 65536 = w := by omega
theorem dv4 {p q r s w : Nat} (h : p < 256) (hq : q < 256) (hr : r < 256) (hs : s < 256) : (p + 256 * (q + 256 * (r + 256 * (s + 256 * w)))) / 4294967296 = w := by
  rw [show (4294967296 : Nat) = 65536 * 65536 from rfl, ← Nat.div_div_eq_div_mul, dv2 h hq, dv2 hr hs]
theorem sm_fold (x : Nat) : (((byP pc3 8 x + byP pc3 8 x / 256) + (byP pc3 8 x + byP pc3 8 x / 256) / 65536) + ((byP pc3 8 x + byP pc3 8 x / 256) + (byP pc3 8 x + byP pc3 8 x / 256) / 65536) / 4294967296) % 128 = smB pc3 8 x := by
  have hb : ∀ y, pc3 (y % 256) ≤ 8 := fun y => (pc_ok ⟨y % 256, by omega⟩).2.2.2.2.2.1
  have e : byP pc3 8 x = pc3 (x % 256) + 256 * (pc3 (x / 256 % 256) + 256 * (pc3 (x / 256 / 256 % 256) + 256 * (pc3 (x / 256 / 256 / 256 % 256) + 256 * (pc3 (x / 256 / 256 / 256 / 256 % 256) + 256 * (pc3 (x / 256 / 256 / 256 / 256 / 256 % 256) + 256 * (pc3 (x / 256 / 256 / 256 / 256 / 256 / 256 % 256) + 256 * (pc3 (x / 256 / 256 / 256 / 256 / 256 / 256 / 256 % 256) + 256 * 0))))))) := rfl
  have e2 : smB pc3 8 x = pc3 (x % 256) + (pc3 (x / 256 % 256) + (pc3 (x / 256 / 256 % 256) + (pc3 (x / 256 / 256 / 256 % 256) + (pc3 (x / 256 / 256 / 256 / 256 % 256) + (pc3 (x / 256 / 256 / 256 / 256 / 256 % 256) + (pc3 (x / 256 / 256 / 256 / 256 / 256 / 256 % 256) + (pc3 (x / 256 / 256 / 256 / 256 / 256 / 256 / 256 % 256) + 0))))))) := rfl
  rw [e, e2]
  have b0 := hb x
  have b1 := hb (x / 256)
  have b2 := hb (x / 256 / 256)
  have b3 := hb (x / 256 / 256 / 256)
  have b4 := hb (x / 256 / 256 / 256 / 256)
  have b5 := hb (x / 256 / 256 / 256 / 256 / 256)
  have b6 := hb (x / 256 / 256 / 256 / 256 / 256 / 256)
  have b7 := hb (x / 256 / 256 / 256 / 256 / 256 / 256 / 256)
  clear e e2 hb
  generalize pc3 (x / 256 / 256 / 256 / 256 / 256 / 256 / 256 % 256) = p7 at b7 ⊢
  generalize pc3 (x / 256 / 256 / 256 / 256 / 256 / 256 % 256) = p6 at b6 ⊢
  generalize pc3 (x / 256 / 256 / 256 / 256 / 256 % 256) = p5 at b5 ⊢
  generalize pc3 (x / 256 / 256 / 256 / 256 % 256) = p4 at b4 ⊢
  generalize pc3 (x / 256 / 256 / 256 % 256) = p3 at b3 ⊢
  generalize pc3 (x / 256 / 256 % 256) = p2 at b2 ⊢
  generalize pc3 (x / 256 % 256) = p1 at b1 ⊢
  generalize pc3 (x % 256) = p0 at b0 ⊢
  rw [dv1 (Nat.lt_of_le_of_lt b0 (by decide))]
  rw [show (p0 + 256 * (p1 + 256 * (p2 + 256 * (p3 + 256 * (p4 + 256 * (p5 + 256 * (p6 + 256 * (p7 + 256 * 0)))))))) + (p1 + 256 * (p2 + 256 * (p3 + 256 * (p4 + 256 * (p5 + 256 * (p6 + 256 * (p7 + 256 * 0))))))) = (p0 + p1) + 256 * ((p1 + p2) + 256 * ((p2 + p3) + 256 * ((p3 + p4) + 256 * ((p4 + p5) + 256 * ((p5 + p6) + 256 * ((p6 + p7) + 256 * p7)))))) by clear b0 b1 b2 b3 b4 b5 b6 b7; omega]
  have c0 : p0 + p1 < 256 := by clear b2 b3 b4 b5 b6 b7; omega
  have c1 : p1 + p2 < 256 := by clear b0 b3 b4 b5 b6 b7; omega
  rw [dv2 c0 c1]
  rw [show (p0 + p1) + 256 * ((p1 + p2) + 256 * ((p2 + p3) + 256 * ((p3 + p4) + 256 * ((p4 + p5) + 256 * ((p5 + p6) + 256 * ((p6 + p7) + 256 * p7)))))) + ((p2 + p3) + 256 * ((p3 + p4) + 256 * ((p4 + p5) + 256 * ((p5 + p6) + 256 * ((p6 + p7) + 256 * p7))))) = (p0 + p1 + p2 + p3) + 256 * ((p1 + p2 + p3 + p4) + 256 * ((p2 + p3 + p4 + p5) + 256 * ((p3 + p4 + p5 + p6) + 256 * ((p4 + p5 + p6 + p7) + 256 * ((p5 + p6 + p7) + 256 * ((p6 + p7) + 256 * p7)))))) by clear b0 b1 b2 b3 b4 b5 b6 b7 c0 c1; omega]
  have d0 : p0 + p1 + p2 + p3 < 256 := by clear b4 b5 b6 b7 c0 c1; omega
  have d1 : p1 + p2 + p3 + p4 < 256 := by clear b0 b5 b6 b7 c0 c1; omega
  have d2 : p2 + p3 + p4 + p5 < 256 := by clear b0 b1 b6 b7 c0 c1; omega
  have d3 : p3 + p4 + p5 + p6 < 256 := by clear b0 b1 b2 b7 c0 c1; omega
  rw [dv4 d0 d1 d2 d3]
  rw [show (p0 + p1 + p2 + p3) + 256 * ((p1 + p2 + p3 + p4) + 256 * ((p2 + p3 + p4 + p5) + 256 * ((p3 + p4 + p5 + p6) + 256 * ((p4 + p5 + p6 + p7) + 256 * ((p5 + p6 + p7) + 256 * ((p6 + p7) + 256 * p7)))))) + ((p4 + p5 + p6 + p7) + 256 * ((p5 + p6 + p7) + 256 * ((p6 + p7) + 256 * p7))) = (p0 + (p1 + (p2 + (p3 + (p4 + (p5 + (p6 + (p7 + 0)))))))) + 128 * (2 * ((p1 + p2 + p3 + p4) + (p5 + p6 + p7) + 256 * ((p2 + p3 + p4 + p5) + (p6 + p7) + 256 * ((p3 + p4 + p5 + p6) + p7 + 256 * ((p4 + p5 + p6 + p7) + 256 * ((p5 + p6 + p7) + 256 * ((p6 + p7) + 256 * p7))))))) by clear b0 b1 b2 b3 b4 b5 b6 b7 c0 c1 d0 d1 d2 d3; omega, Nat.add_mul_mod_self_left]
  exact Nat.mod_eq_of_lt (by clear c0 c1 d0 d1 d2 d3; omega)
theorem shr64 (x : Int64) (s : Int32) (k : Nat) (hs : ((s.toInt64.toUInt64 &&& 63).toBitVec % 64).toNat = k) : (x.toUInt64 >>> (s.toInt64.toUInt64 &&& 63)).toInt64.toBitVec.toNat = x.toBitVec.toNat / 2 ^ k := by
  have e : (x.toUInt64 >>> (s.toInt64.toUInt64 &&& 63)).toInt64.toBitVec = x.toBitVec >>> k := by
    rw [← hs]
    exact UInt64.toBitVec_shiftRight _ _
  rw [e, BitVec.toNat_ushiftRight, Nat.shiftRight_eq_div_pow]
theorem and64 (x y : Int64) : (x &&& y).toBitVec.toNat = x.toBitVec.toNat &&& y.toBitVec.toNat := by rw [Int64.toBitVec_and, BitVec.toNat_and]
theorem add64 {x y : Int64} {a b : Nat} (hx : x.toBitVec.toNat = a) (hy : y.toBitVec.toNat = b) (h : a + b < 18446744073709551616) : (x + y).toBitVec.toNat = a + b := by
  rw [Int64.toBitVec_add, BitVec.toNat_add, hx, hy]
  exact Nat.mod_eq_of_lt h
theorem sub64 {x y : Int64} {a b : Nat} (hx : x.toBitVec.toNat = a) (hy : y.toBitVec.toNat = b) (h : b ≤ a) : (x - y).toBitVec.toNat = a - b := by
  have ha : a < 2 ^ 64 := by rw [← hx]; exact x.toBitVec.isLt
  rw [Int64.toBitVec_sub, BitVec.toNat_sub, hx, hy]
  omega
theorem lN_of (x : Int64) : x = lN x.toBitVec.toNat := by
  apply Int64.toBitVec_inj.mp
  apply BitVec.eq_of_toNat_eq
  show x.toBitVec.toNat = x.toBitVec.toNat % 2 ^ 64
  exact (Nat.mod_eq_of_lt x.toBitVec.isLt).symm
/-- bitCount -/
theorem c_bits (x : Int64) : M_J13_bitCount_95d88 x = some (nI (cnN (fun i => x.toBitVec.getLsbD i) 64)) := by
  have hx : x.toBitVec.toNat < 256 ^ 8 := x.toBitVec.isLt
  obtain ⟨a1, a2⟩ := pcn _ hx
  have hl := by_lt (a := pc2) (fun y hy => (pc_ok ⟨y, hy⟩).2.2.1) 8 x.toBitVec.toNat
  have hl2 : byP pc2 8 x.toBitVec.toNat + byP pc2 8 x.toBitVec.toNat / 16 < 18446744073709551616 := by
    have hb : ∀ y, pc2 (y % 256) ≤ 68 := fun y => by
      have q := pc_ok ⟨y % 256, by omega⟩
      have q1 : pc2 (y % 256) % 16 ≤ 4 := q.2.2.2.1
      have q2 : pc2 (y % 256) / 16 ≤ 4 := q.2.2.2.2.1
      omega
    have q := by_le hb 8 x.toBitVec.toNat
    rw [show 68 * Mk 1 8 = 4919131752989213764 from rfl] at q
    clear hl a1 a2 hx
    generalize byP pc2 8 x.toBitVec.toNat = v at q ⊢
    omega
  have f1 := sm_fold x.toBitVec.toNat
  have h60 : byP pc3 8 x.toBitVec.toNat < 1152921504606846976 := by
    have q := by_le (fun y => (pc_ok ⟨y % 256, by omega⟩).2.2.2.2.2.1) 8 x.toBitVec.toNat
    rw [show 8 * Mk 1 8 = 578721382704613384 from rfl] at q
    exact Nat.lt_of_le_of_lt q (by decide)
  have h61 : byP pc3 8 x.toBitVec.toNat + byP pc3 8 x.toBitVec.toNat / 256 < 2305843009213693952 := by
    clear f1 hl2 hl a1 a2 hx
    generalize byP pc3 8 x.toBitVec.toNat = v at h60 ⊢
    omega
  have h62 : (byP pc3 8 x.toBitVec.toNat + byP pc3 8 x.toBitVec.toNat / 256) + (byP pc3 8 x.toBitVec.toNat + byP pc3 8 x.toBitVec.toNat / 256) / 65536 < 4611686018427387904 := by
    clear f1 hl2 hl a1 a2 hx h60
    generalize byP pc3 8 x.toBitVec.toNat + byP pc3 8 x.toBitVec.toNat / 256 = v at h61 ⊢
    omega
  have h63 : ((byP pc3 8 x.toBitVec.toNat + byP pc3 8 x.toBitVec.toNat / 256) + (byP pc3 8 x.toBitVec.toNat + byP pc3 8 x.toBitVec.toNat / 256) / 65536) + ((byP pc3 8 x.toBitVec.toNat + byP pc3 8 x.toBitVec.toNat / 256) + (byP pc3 8 x.toBitVec.toNat + byP pc3 8 x.toBitVec.toNat / 256) / 65536) / 4294967296 < 9223372036854775808 := by
    clear f1 hl2 hl a1 a2 hx h60 h61
    generalize (byP pc3 8 x.toBitVec.toNat + byP pc3 8 x.toBitVec.toNat / 256) + (byP pc3 8 x.toBitVec.toNat + byP pc3 8 x.toBitVec.toNat / 256) / 65536 = v at h62 ⊢
    omega
  have hv1 : (x - (((x.toUInt64 >>> ((1 : Int32).toInt64.toUInt64 &&& 63)).toInt64) &&& (6148914691236517205 : Int64))).toBitVec.toNat = byP pc1 8 x.toBitVec.toNat := by
    rw [← a2]
    exact sub64 rfl (by rw [and64, shr64 x 1 1 (by decide)]; rfl) a1
  unfold M_J13_bitCount_95d88
  simp only [lt_eq]
  generalize (x - (((x.toUInt64 >>> ((1 : Int32).toInt64.toUInt64 &&& 63)).toInt64) &&& (6148914691236517205 : Int64))) = y1 at hv1 ⊢
  have hv2 : ((y1 &&& (3689348814741910323 : Int64)) + (((y1.toUInt64 >>> ((2 : Int32).toInt64.toUInt64 &&& 63)).toInt64) &&& (3689348814741910323 : Int64))).toBitVec.toNat = byP pc2 8 x.toBitVec.toNat := by
    rw [← pcn2, ← hv1]
    refine add64 (by rw [and64]; rfl) (by rw [and64, shr64 y1 2 2 (by decide)]; rfl) ?_
    rw [hv1, pcn2]
    exact hl
  generalize ((y1 &&& (3689348814741910323 : Int64)) + (((y1.toUInt64 >>> ((2 : Int32).toInt64.toUInt64 &&& 63)).toInt64) &&& (3689348814741910323 : Int64))) = y2 at hv2 ⊢
  have hv3 : ((y2 + ((y2.toUInt64 >>> ((4 : Int32).toInt64.toUInt64 &&& 63)).toInt64)) &&& (1085102592571150095 : Int64)).toBitVec.toNat = byP pc3 8 x.toBitVec.toNat := by
    rw [← pcn3, and64, add64 hv2 (by rw [shr64 y2 4 4 (by decide), hv2]) (by exact hl2)]
    rfl
  generalize ((y2 + ((y2.toUInt64 >>> ((4 : Int32).toInt64.toUInt64 &&& 63)).toInt64)) &&& (1085102592571150095 : Int64)) = y3 at hv3 ⊢
  have hv4 : (y3 + ((y3.toUInt64 >>> ((8 : Int32).toInt64.toUInt64 &&& 63)).toInt64)).toBitVec.toNat = byP pc3 8 x.toBitVec.toNat + byP pc3 8 x.toBitVec.toNat / 256 := add64 hv3 (by rw [shr64 y3 8 8 (by decide), hv3]) (Nat.lt_trans h61 (by decide))
  generalize y3 + ((y3.toUInt64 >>> ((8 : Int32).toInt64.toUInt64 &&& 63)).toInt64) = y4 at hv4 ⊢
  have hv5 : (y4 + ((y4.toUInt64 >>> ((16 : Int32).toInt64.toUInt64 &&& 63)).toInt64)).toBitVec.toNat = (byP pc3 8 x.toBitVec.toNat + byP pc3 8 x.toBitVec.toNat / 256) + (byP pc3 8 x.toBitVec.toNat + byP pc3 8 x.toBitVec.toNat / 256) / 65536 := add64 hv4 (by rw [shr64 y4 16 16 (by decide), hv4]) (Nat.lt_trans h62 (by decide))
  generalize y4 + ((y4.toUInt64 >>> ((16 : Int32).toInt64.toUInt64 &&& 63)).toInt64) = y5 at hv5 ⊢
  have hv6 : (y5 + ((y5.toUInt64 >>> ((32 : Int32).toInt64.toUInt64 &&& 63)).toInt64)).toBitVec.toNat = ((byP pc3 8 x.toBitVec.toNat + byP pc3 8 x.toBitVec.toNat / 256) + (byP pc3 8 x.toBitVec.toNat + byP pc3 8 x.toBitVec.toNat / 256) / 65536) + ((byP pc3 8 x.toBitVec.toNat + byP pc3 8 x.toBitVec.toNat / 256) + (byP pc3 8 x.toBitVec.toNat + byP pc3 8 x.toBitVec.toNat / 256) / 65536) / 4294967296 := add64 hv5 (by rw [shr64 y5 32 32 (by decide), hv5]) (Nat.lt_trans h63 (by decide))
  generalize y5 + ((y5.toUInt64 >>> ((32 : Int32).toInt64.toUInt64 &&& 63)).toInt64) = y6 at hv6 ⊢
  rw [lN_of y6, lN_i, pk_and _ 7 (by decide), hv6]
  congr 2
  rw [show cnN (fun i => x.toBitVec.getLsbD i) 64 = smB pc3 8 x.toBitVec.toNat from (smB_cn 8 x.toBitVec.toNat).symm, ← f1]
  show (_ % 2 ^ 32) % 2 ^ 7 = _
  exact Nat.mod_mod_of_dvd _ (by decide)
