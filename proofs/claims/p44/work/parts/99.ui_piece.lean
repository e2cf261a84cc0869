/-! the text told: its tokens -/
def dgT (v : Nat) : List Nat := if v < 10 then [48 + v % 10] else if v < 100 then [48 + v / 10 % 10, 48 + v % 10] else if v < 1000 then [48 + v / 100 % 10, 48 + v / 10 % 10, 48 + v % 10] else [48 + v / 1000 % 10, 48 + v / 100 % 10, 48 + v / 10 % 10, 48 + v % 10]
theorem dg_map {v : Nat} : dgN v = (dgT v).map nI := by
  unfold dgN dgT
  split
  · rfl
  split
  · rfl
  split <;> rfl
theorem dg_all : ∀ v : Fin 1024, dgT v.val ≠ [] ∧ (∀ x ∈ dgT v.val, isDn x = true) ∧ (dgT v.val).length ≤ 4 ∧ dl (dgT v.val) = v.val ∧ (∀ x ∈ dgT v.val, x < 128) := by decide +kernel
/-- a term's bytes behind its first blank -/
def tmR (t d k : Nat) : List Nat := if t = 0 then dgT d else if t = 1 then [99, 97 + k] ++ [32] else if t = 2 then [99, 97 + k] ++ (32 :: 43 :: ([120] ++ (42 :: dgT d))) else if t = 3 then [120] ++ (45 :: ([115, 116, 97, 109, 112] ++ (43 :: dgT d))) else if t = 4 then [50, 48] ++ (47 :: 40 :: 32 :: ([99, 97 + k] ++ (32 :: 45 :: (dgT d ++ [41])))) else if t = 5 then [99, 97 + k] ++ (32 :: 42 :: ([50] ++ (45 :: ([111, 114, 105, 103, 105, 110] ++ (45 :: dgT d))))) else if t = 6 then [115, 116, 97, 109, 112] ++ (42 :: (dgT d ++ (45 :: 32 :: ([99, 97 + k] ++ [32])))) else [99, 97 + k] ++ (32 :: 47 :: ([51] ++ (43 :: [120])))
/-- a term's tokens -/
def tmK (t d k : Nat) : List (Nat × Nat) := if t = 0 then [(2, d)] else if t = 1 then [(1, 82 + k)] else if t = 2 then [(1, 82 + k), (8, 0), (28, 0), (10, 0), (2, d)] else if t = 3 then [(28, 0), (9, 0), (29, 0), (8, 0), (2, d)] else if t = 4 then [(2, 20), (15, 0), (6, 0), (1, 82 + k), (9, 0), (2, d), (7, 0)] else if t = 5 then [(1, 82 + k), (10, 0), (2, 2), (9, 0), (30, 0), (9, 0), (2, d)] else if t = 6 then [(29, 0), (10, 0), (2, d), (9, 0), (1, 82 + k)] else [(1, 82 + k), (15, 0), (2, 3), (8, 0), (28, 0)]
theorem pw_a : pw 3 729295360 0 0 = [nI 43, nI 120, nI 42] ∧ pw 9 544746867 1952542064 721420288 = [nI 32, nI 120, nI 45, nI 115, nI 116, nI 97, nI 109, nI 112, nI 43] ∧ pw 5 540160047 671088640 0 = [nI 32, nI 50, nI 48, nI 47, nI 40] ∧ pw 10 707931503 1919510377 1848442880 = [nI 42, nI 50, nI 45, nI 111, nI 114, nI 105, nI 103, nI 105, nI 110, nI 45] ∧ pw 7 544437345 1836067328 0 = [nI 32, nI 115, nI 116, nI 97, nI 109, nI 112, nI 42] ∧ pw 4 791882616 0 0 = [nI 47, nI 51, nI 43, nI 120] := by decide +kernel
theorem pw_b : pw 6 1718579821 543555584 0 = [nI 102, nI 111, nI 114, nI 109, nI 32, nI 102] ∧ pw 6 544105829 1685258240 0 = [nI 32, nI 110, nI 101, nI 101, nI 100, nI 115] ∧ pw 5 544433524 1929379840 0 = [nI 32, nI 115, nI 101, nI 116, nI 115] ∧ pw 5 543517811 1694498816 0 = [nI 32, nI 101, nI 108, nI 115, nI 101] ∧ pw 4 1667591276 0 0 = [nI 99, nI 101, nI 108, nI 108] := by decide +kernel
theorem pw_c : pw 5 1936024932 536870912 0 = [nI 115, nI 101, nI 101, nI 100, nI 32] ∧ pw 8 996372336 1768256288 0 = [nI 59, nI 99, nI 111, nI 112, nI 105, nI 101, nI 115, nI 32] ∧ pw 9 997225065 1835102841 536870912 = [nI 59, nI 112, nI 114, nI 105, nI 109, nI 97, nI 114, nI 121, nI 32] := by decide +kernel
theorem tm_map {t d k : Nat} : tmL t d k = (32 :: tmR t d k).map nI := by
  obtain ⟨a1, a2, a3, a4, a5, a6⟩ := pw_a
  unfold tmL tmR
  rw [a1, a2, a3, a4, a5, a6, dg_map]
  unfold ceL
  split
  · simp only [List.map_append, List.map_cons, List.map_nil, List.append_assoc, List.cons_append, List.nil_append]
  split
  · simp only [List.map_append, List.map_cons, List.map_nil, List.append_assoc, List.cons_append, List.nil_append]
  split
  · simp only [List.map_append, List.map_cons, List.map_nil, List.append_assoc, List.cons_append, List.nil_append]
  split
  · simp only [List.map_append, List.map_cons, List.map_nil, List.append_assoc, List.cons_append, List.nil_append]
  split
  · simp only [List.map_append, List.map_cons, List.map_nil, List.append_assoc, List.cons_append, List.nil_append]
  split
  · simp only [List.map_append, List.map_cons, List.map_nil, List.append_assoc, List.cons_append, List.nil_append]
  split
  · simp only [List.map_append, List.map_cons, List.map_nil, List.append_assoc, List.cons_append, List.nil_append]
  · simp only [List.map_append, List.map_cons, List.map_nil, List.append_assoc, List.cons_append, List.nil_append]
section TZ2
variable {u : Nat → Nat} {e : Nat} {L : List Nat} {ts : List (Nat × Nat)}
theorem Tz.kw (w : List Nat) (k : Nat) (hw : w ≠ []) (hl : ∀ x ∈ w, isLn x = true) (h8 : w.length ≤ 8) (hk : kwF (wl w) 11 = k) (h1 : k ≠ 1 ∧ k ≠ 2) (hL : Hd isLn L) (h : Tz u e L ts) : Tz u e (w ++ L) ((k, 0) :: ts) := by
  have hW := Tz.word w (wl w) hw hl h8 rfl hL h
  refine ⟨hW.1, fun P hP => ?_⟩
  obtain ⟨a, b, c, d⟩ := hW.2 P hP
  exact ⟨a, b.trans hk, fun z => by omega, d⟩
theorem kw_n : ∀ k : Fin 8, kwF (82 + k.val) 11 = 1 ∧ kwF (163 + k.val) 11 = 1 := by decide +kernel
theorem Tz.cellN {k : Nat} (hk : k < 8) (hL : Hd isLn L) (h : Tz u e L ts) : Tz u e ([99, 97 + k] ++ L) ((1, 82 + k) :: ts) := by
  have := Tz.word [99, 97 + k] (82 + k) (by exact List.cons_ne_nil _ _) (fun x hx => by
    rcases List.mem_cons.mp hx with rfl | hx
    · rfl
    · rcases List.mem_cons.mp hx with rfl | hx
      · exact isLn_bd.mpr ⟨by omega, by omega⟩
      · exact absurd hx (List.not_mem_nil)) (show 2 ≤ 8 by decide) (by show 27 * (27 * 0 + (99 - 96)) + (97 + k - 96) = 82 + k; omega) hL h
  rw [(kw_n ⟨k, hk⟩).1] at this
  exact this
theorem Tz.formN {k : Nat} (hk : k < 8) (hL : Hd isLn L) (h : Tz u e L ts) : Tz u e ([102, 97 + k] ++ L) ((1, 163 + k) :: ts) := by
  have := Tz.word [102, 97 + k] (163 + k) (by exact List.cons_ne_nil _ _) (fun x hx => by
    rcases List.mem_cons.mp hx with rfl | hx
    · rfl
    · rcases List.mem_cons.mp hx with rfl | hx
      · exact isLn_bd.mpr ⟨by omega, by omega⟩
      · exact absurd hx (List.not_mem_nil)) (show 2 ≤ 8 by decide) (by show 27 * (27 * 0 + (102 - 96)) + (97 + k - 96) = 163 + k; omega) hL h
  rw [(kw_n ⟨k, hk⟩).2] at this
  exact this
theorem Tz.dg {v : Nat} (hv : v < 1024) (hL : Hd isDn L) (h : Tz u e L ts) : Tz u e (dgT v ++ L) ((2, v) :: ts) := by
  obtain ⟨a1, a2, a3, a4, _⟩ := dg_all ⟨v, hv⟩
  exact Tz.num (dgT v) v a1 a2 a3 a4 hL h
theorem hd_c {p : Nat → Bool} {c : Nat} {r : List Nat} (h : p c = false) : Hd p (c :: r) := Or.inr ⟨c, r, rfl, h⟩
theorem Tz.sg {c k : Nat} (hc : isBn c = false ∧ isLn c = false ∧ isDn c = false ∧ sgk c = k ∧ c < 128) (h : Tz u e L ts) : Tz u e (c :: L) ((k, 0) :: ts) := Tz.sign c k hc.1 hc.2.1 hc.2.2.1 hc.2.2.2.1 hc.2.2.2.2 h
theorem Tz.tm {t d k : Nat} (ht : t < 8) (hd : d < 4) (hk : k < 8) (hL : Hd isLn L) (hL2 : Hd isDn L) (h : Tz u e L ts) : Tz u e (tmR t d k ++ L) (tmK t d k ++ ts) := by
  have c43 : isBn 43 = false ∧ isLn 43 = false ∧ isDn 43 = false ∧ sgk 43 = 8 ∧ 43 < 128 := ⟨rfl, rfl, rfl, rfl, by decide⟩
  have c42 : isBn 42 = false ∧ isLn 42 = false ∧ isDn 42 = false ∧ sgk 42 = 10 ∧ 42 < 128 := ⟨rfl, rfl, rfl, rfl, by decide⟩
  have c45 : isBn 45 = false ∧ isLn 45 = false ∧ isDn 45 = false ∧ sgk 45 = 9 ∧ 45 < 128 := ⟨rfl, rfl, rfl, rfl, by decide⟩
  have c47 : isBn 47 = false ∧ isLn 47 = false ∧ isDn 47 = false ∧ sgk 47 = 15 ∧ 47 < 128 := ⟨rfl, rfl, rfl, rfl, by decide⟩
  have c40 : isBn 40 = false ∧ isLn 40 = false ∧ isDn 40 = false ∧ sgk 40 = 6 ∧ 40 < 128 := ⟨rfl, rfl, rfl, rfl, by decide⟩
  have c41 : isBn 41 = false ∧ isLn 41 = false ∧ isDn 41 = false ∧ sgk 41 = 7 ∧ 41 < 128 := ⟨rfl, rfl, rfl, rfl, by decide⟩
  have dd : ∀ {L : List Nat} {ts : List (Nat × Nat)}, Hd isDn L → Tz u e L ts → Tz u e (dgT d ++ L) ((2, d) :: ts) := fun h1 h2 => Tz.dg (by omega) h1 h2
  have x : ∀ {L : List Nat} {ts : List (Nat × Nat)}, Hd isLn L → Tz u e L ts → Tz u e ([120] ++ L) ((28, 0) :: ts) := fun h1 h2 => Tz.kw [120] 28 (by decide) (by decide) (by decide) (by decide +kernel) (by decide) h1 h2
  have st : ∀ {L : List Nat} {ts : List (Nat × Nat)}, Hd isLn L → Tz u e L ts → Tz u e ([115, 116, 97, 109, 112] ++ L) ((29, 0) :: ts) := fun h1 h2 => Tz.kw [115, 116, 97, 109, 112] 29 (by decide) (by decide) (by decide) (by decide +kernel) (by decide) h1 h2
  have og : ∀ {L : List Nat} {ts : List (Nat × Nat)}, Hd isLn L → Tz u e L ts → Tz u e ([111, 114, 105, 103, 105, 110] ++ L) ((30, 0) :: ts) := fun h1 h2 => Tz.kw [111, 114, 105, 103, 105, 110] 30 (by decide) (by decide) (by decide) (by decide +kernel) (by decide) h1 h2
  rcases (show t = 0 ∨ t = 1 ∨ t = 2 ∨ t = 3 ∨ t = 4 ∨ t = 5 ∨ t = 6 ∨ t = 7 by omega) with rfl | rfl | rfl | rfl | rfl | rfl | rfl | rfl
  · show Tz u e (dgT d ++ L) ((2, d) :: ts)
    exact dd hL2 h
  · show Tz u e ([99, 97 + k] ++ (32 :: L)) ((1, 82 + k) :: ts)
    exact Tz.cellN hk (hd_c rfl) h.blank
  · show Tz u e ([99, 97 + k] ++ (32 :: 43 :: ([120] ++ (42 :: (dgT d ++ L))))) ((1, 82 + k) :: (8, 0) :: (28, 0) :: (10, 0) :: (2, d) :: ts)
    exact Tz.cellN hk (hd_c rfl) (Tz.blank (Tz.sg c43 (x (hd_c rfl) (Tz.sg c42 (dd hL2 h)))))
  · show Tz u e ([120] ++ (45 :: ([115, 116, 97, 109, 112] ++ (43 :: (dgT d ++ L))))) ((28, 0) :: (9, 0) :: (29, 0) :: (8, 0) :: (2, d) :: ts)
    exact x (hd_c rfl) (Tz.sg c45 (st (hd_c rfl) (Tz.sg c43 (dd hL2 h))))
  · show Tz u e ([50, 48] ++ (47 :: 40 :: 32 :: ([99, 97 + k] ++ (32 :: 45 :: ((dgT d ++ [41]) ++ L))))) ((2, 20) :: (15, 0) :: (6, 0) :: (1, 82 + k) :: (9, 0) :: (2, d) :: (7, 0) :: ts)
    rw [List.append_assoc]
    exact Tz.num [50, 48] 20 (by decide) (by decide) (by decide) (by decide) (hd_c rfl) (Tz.sg c47 (Tz.sg c40 (Tz.blank (Tz.cellN hk (hd_c rfl) (Tz.blank (Tz.sg c45 (dd (L := 41 :: L) (hd_c rfl) (Tz.sg c41 h))))))))
  · show Tz u e ([99, 97 + k] ++ (32 :: 42 :: ([50] ++ (45 :: ([111, 114, 105, 103, 105, 110] ++ (45 :: (dgT d ++ L))))))) ((1, 82 + k) :: (10, 0) :: (2, 2) :: (9, 0) :: (30, 0) :: (9, 0) :: (2, d) :: ts)
    exact Tz.cellN hk (hd_c rfl) (Tz.blank (Tz.sg c42 (Tz.num [50] 2 (by decide) (by decide) (by decide) (by decide) (hd_c rfl) (Tz.sg c45 (og (hd_c rfl) (Tz.sg c45 (dd hL2 h)))))))
  · show Tz u e ([115, 116, 97, 109, 112] ++ (42 :: ((dgT d ++ (45 :: 32 :: ([99, 97 + k] ++ [32]))) ++ L))) ((29, 0) :: (10, 0) :: (2, d) :: (9, 0) :: (1, 82 + k) :: ts)
    rw [List.append_assoc]
    exact st (hd_c rfl) (Tz.sg c42 (dd (L := 45 :: 32 :: ([99, 97 + k] ++ (32 :: L))) (hd_c rfl) (Tz.sg c45 (Tz.blank (Tz.cellN hk (hd_c rfl) h.blank)))))
  · show Tz u e ([99, 97 + k] ++ (32 :: 47 :: ([51] ++ (43 :: ([120] ++ L))))) ((1, 82 + k) :: (15, 0) :: (2, 3) :: (8, 0) :: (28, 0) :: ts)
    exact Tz.cellN hk (hd_c rfl) (Tz.blank (Tz.sg c47 (Tz.num [51] 3 (by decide) (by decide) (by decide) (by decide) (hd_c rfl) (Tz.sg c43 (x hL h)))))
end TZ2
