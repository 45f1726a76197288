/-! the texts: how long, which sign, where a sign is -/
def chS (i : Nat) : List Nat := (strL.getD i []).map fun x => x.toNatClampNeg
theorem chS_len (i : Nat) (hi : i < 13) : (chS i).length = strN i ∧ strN i ≤ 5 := by
  have q : ∀ i, i < 13 → (chS i).length = strN i ∧ strN i ≤ 5 := by decide
  exact q i hi
theorem strB_ch {i j : Nat} (hi : i < 13) (hj : j < strN i) : strB i j = Int32.ofNat ((chS i).getD j 0) ∧ (chS i).getD j 0 < 128 ∧ ((strB i j &&& 255).toUInt32 % 65536).toInt32 = strB i j ∧ (strB i j).toUInt32.toUInt16.toUInt32.toInt32 = strB i j := by
  have q : ∀ i, i < 13 → ∀ j, j < 5 → j < strN i → strB i j = Int32.ofNat ((chS i).getD j 0) ∧ (chS i).getD j 0 < 128 ∧ ((strB i j &&& 255).toUInt32 % 65536).toInt32 = strB i j ∧ (strB i j).toUInt32.toUInt16.toUInt32.toInt32 = strB i j := by decide
  have := (chS_len i hi).2
  exact q i hi j (by omega) hj
theorem sh30 (ν : MM) {i : Nat} (hi : i < 13) : shp (fx ν) i = 30 := by
  show nxt fxK[i]? _ = 30
  have q : ∀ i, i < 13 → fxK[i]? = some 30 := by decide
  rw [q i hi]
  rfl
theorem sh31 (ν : MM) {i : Nat} (hi : i < 13) : shp (fx ν) (13 + i) = 31 := by
  show nxt fxK[13 + i]? _ = 31
  have q : ∀ i, i < 13 → fxK[13 + i]? = some 31 := by decide
  rw [q i hi]
  rfl
theorem al31 (ν : MM) {i : Nat} (hi : i < 13) : aln (fx ν) (13 + i) = strN i := by
  show nxt (fxN.getD (13 + i) none) _ = strN i
  have q : ∀ i, i < 13 → fxN.getD (13 + i) none = some (strN i) := by decide
  rw [q i hi]
  rfl
theorem s_200 (d : Nat) {ν : MM} {i : Nat} (hi : i < 13) (h : gI ν i 1 = 0) : ev d 200 0 [.ref i] [] (fx ν) = some (some (.int 0), fx ν) := by
  rw [e_200_0, if_neg (by decide), e_200_1 d ν i hi, h, e_200_3]
  rfl
theorem s_201 (d : Nat) {ν : MM} {i : Nat} (hi : i < 13) (h : gI ν i 1 = 0) : ev d 201 0 [.ref i] [] (fx ν) = some (some (.int 1), fx ν) := by
  rw [e_201_0, if_neg (by decide), e_201_1 d ν i hi, if_pos h, e_201_2, e_201_4]
  rfl
theorem s_196 (d : Nat) {ν : MM} {i : Nat} (hi : i < 13) (h : gI ν i 1 = 0) : ev (d + 1) 196 0 [.ref i] [] (fx ν) = some (some (.int (Int32.ofNat (strN i))), fx ν) := by
  have q : ∀ i, i < 13 → Int32.ofNat (strN i) >>> ((0 : Int32) &&& 31) = Int32.ofNat (strN i) := by decide
  rw [e_196_0 d ν i hi, sh31 ν hi, sh30 ν hi, al31 ν hi]
  show gd true (bnd 1 (ev d 200 0 [.ref i] [] (fx ν)) _) = _
  rw [gd_t, s_200 d hi h, bnd_1, app1, e_196_1, q i hi]
theorem s_208 (d : Nat) {a b : Nat} (h : a < b) (hb : b ≤ 1000000) (ν : MM) : ev d 208 0 [.int (Int32.ofNat a), .int (Int32.ofNat b)] [] (fx ν) = some (some (.int (Int32.ofNat a)), fx ν) := by
  have h1 : ¬ Int32.ofNat a < 0 := by
    show ¬ Int32.ofNat a < Int32.ofNat 0
    rw [O_lt (by omega) (by omega)]; omega
  have h2 : Int32.ofNat a < Int32.ofNat b := by rw [O_lt (by omega) (by omega)]; exact h
  rw [e_208_0, if_neg h1, e_208_1, if_pos h2, e_208_3]
theorem s_197 (d : Nat) {ν : MM} (hS : Str ν) {i j : Nat} (hi : i < 13) (hj : j < strN i) : ev (d + 3) 197 0 [.ref i, .int (Int32.ofNat j)] [] (fx ν) = some (some (.int (Int32.ofNat ((chS i).getD j 0))), fx ν) := by
  obtain ⟨h1, h2⟩ := hS i hi
  obtain ⟨q1, q2, q3, q4⟩ := strB_ch hi hj
  have hl := (chS_len i hi).2
  rw [e_197_0, sh30 ν hi]
  show bnd 1 (ev (d + 2) 201 0 [.ref i] [] (fx ν)) _ = _
  rw [s_201 _ hi h1, bnd_1, app1, e_197_1, if_neg (by decide), e_197_2 _ _ _ i hi, e_203_0, sh31 ν hi, al31 ν hi]
  show bnd 1 (gd true (bnd 0 (ev (d + 1) 202 0 [.int (Int32.ofNat j), .int (Int32.ofNat (strN i))] [] (fx ν)) _)) _ = _
  rw [gd_t, e_202_0, s_208 d hj (by omega), bnd_1, app1, e_202_1, bnd_0, app0, e_203_1, sh31 ν hi, al31 ν hi, inb_O hj (by omega), tn_O (by omega), h2 j, q3, q4]
  show bnd 1 (gd true (gd (decide (strB i j = strB i j)) _)) _ = _
  rw [decide_eq_true rfl, gd_t, gd_t, bnd_1, app1, e_197_3, q4, decide_eq_true rfl, gd_t, q1]
def ixI (l : List Nat) (c : Nat) : Int32 := match ixN l c with
  | none => -1
  | some a => Int32.ofNat a
theorem s_206 (d : Nat) {ν : MM} (hS : Str ν) {i c : Nat} (hi : i < 13) (hc : c ≤ 128) : ∀ (m k : Nat), k + m = strN i → ev d 206 1 [.ref (13 + i), .int (Int32.ofNat (strN i)), .int (Int32.ofNat c).toInt8.toInt32, .int (Int32.ofNat k)] [] (fx ν) = some (some (.int (match ixN ((chS i).drop k) c with
    | none => -1
    | some a => Int32.ofNat (k + a))), fx ν) := by
  obtain ⟨h1, h2⟩ := hS i hi
  obtain ⟨hl, hl5⟩ := chS_len i hi
  intro m
  induction m with
  | zero =>
    intro k hk
    have h3 : Int32.ofNat (strN i) ≤ Int32.ofNat k := by rw [O_le (by omega) (by omega)]; omega
    rw [e_206_1, if_pos h3, e_206_5, List.drop_eq_nil_of_le (by omega)]
    rfl
  | succ m ih =>
    intro k hk
    have h3 : ¬ Int32.ofNat (strN i) ≤ Int32.ofNat k := by rw [O_le (by omega) (by omega)]; omega
    obtain ⟨q1, q2, q3, q4⟩ := strB_ch (i := i) (j := k) hi (by omega)
    have hd : (chS i).drop k = (chS i).getD k 0 :: (chS i).drop (k + 1) := by
      rw [List.drop_eq_getElem_cons (by omega), List.getD_eq_getElem?_getD, List.getElem?_eq_getElem (by omega)]
      rfl
    rw [e_206_1, if_neg h3, e_206_2, sh31 ν hi, al31 ν hi, inb_O (by omega) (by omega), tn_O (by omega), h2 k, q1, hd]
    show gd true _ = _
    rw [gd_t]
    show _ = some (some (Value.int (match (if c = (chS i).getD k 0 then some 0 else (match ixN ((chS i).drop (k + 1)) c with
      | none => none
      | some i => some (i + 1))) with
      | none => -1
      | some a => Int32.ofNat (k + a))), fx ν)
    have qb : ∀ c, c < 129 → (Int32.ofNat c).toInt8.toInt32 = if c = 128 then -128 else Int32.ofNat c := by decide +kernel
    have hb := qb c (by omega)
    by_cases e : c = (chS i).getD k 0
    · have hb' : Int32.ofNat ((chS i).getD k 0) = (Int32.ofNat c).toInt8.toInt32 := by rw [hb, if_neg (by omega), e]
      rw [if_pos hb', e_206_3, if_pos e]
      rfl
    · have hb' : ¬ Int32.ofNat ((chS i).getD k 0) = (Int32.ofNat c).toInt8.toInt32 := by
        rw [hb]
        by_cases c8 : c = 128
        · rw [if_pos c8]
          have qn : ∀ a, a < 128 → ¬ Int32.ofNat a = -128 := by decide +kernel
          exact qn _ q2
        · rw [if_neg c8, O_eq (by omega) (by omega)]
          exact fun h => e h.symm
      have hk1 : Int32.ofNat k + 1 = Int32.ofNat (k + 1) := (Int32.ofNat_add k 1).symm
      rw [if_neg hb', e_206_4, hk1, ih (k + 1) (by omega), if_neg e]
      cases ixN ((chS i).drop (k + 1)) c with
      | none => rfl
      | some a =>
        show some (some (Value.int (Int32.ofNat (k + 1 + a))), fx ν) = some (some (Value.int (Int32.ofNat (k + (a + 1)))), fx ν)
        rw [show k + 1 + a = k + (a + 1) by omega]
theorem s_198 (d : Nat) {ν : MM} (hS : Str ν) {i c : Nat} (hi : i < 13) (hn : 0 < strN i) (hc : c ≤ 128) : ev (d + 4) 198 0 [.ref i, .int (Int32.ofNat c)] [] (fx ν) = some (some (.int (ixI (chS i) c)), fx ν) := by
  obtain ⟨h1, h2⟩ := hS i hi
  have hl := (chS_len i hi).2
  have a1 : ¬ Int32.ofNat c < 0 := by
    show ¬ Int32.ofNat c < Int32.ofNat 0
    rw [O_lt (by omega) (by omega)]; omega
  have a2 : ¬ (255 : Int32) < Int32.ofNat c := by
    show ¬ Int32.ofNat 255 < Int32.ofNat c
    rw [O_lt (by omega) (by omega)]; omega
  have a3 : ¬ (0 : Int32) < 0 := by decide
  have a4 : ¬ Int32.ofNat (strN i) < Int32.ofNat (strN i) := by rw [O_lt (by omega) (by omega)]; omega
  have a5 : (0 : Int32) < Int32.ofNat (strN i) := by
    show Int32.ofNat 0 < Int32.ofNat (strN i)
    rw [O_lt (by omega) (by omega)]; omega
  rw [e_198_0, sh30 ν hi]
  show bnd 1 (ev (d + 3) 199 0 [.ref i, .int (Int32.ofNat c), .int 0] [] (fx ν)) _ = _
  rw [e_199_0, sh30 ν hi]
  show bnd 1 (bnd 1 (ev (d + 2) 201 0 [.ref i] [] (fx ν)) _) _ = _
  rw [s_201 _ hi h1, bnd_1, app1, e_199_1, if_neg (by decide), e_199_2 _ _ _ _ i hi, sh30 ν hi]
  show bnd 1 (bnd 1 (ev (d + 2) 196 0 [.ref i] [] (fx ν)) _) _ = _
  rw [s_196 _ hi h1, bnd_1, app1, e_199_3, e_205_0, e_204_0, if_neg a1, e_204_1, if_neg a2, e_204_2, e_204_4]
  show bnd 1 (bnd 1 (bnd 1 (gd true _) _) _) _ = _
  rw [gd_t, bnd_1, app1, e_205_1, if_neg (by decide), e_205_3, sh31 ν hi, al31 ν hi, if_neg a3, if_neg a4, if_pos a5]
  show bnd 1 (bnd 1 (gd true _) _) _ = _
  rw [gd_t, e_205_5, e_206_0]
  have h := s_206 (d + 1) hS (c := c) hi hc (strN i) 0 (by omega)
  have h' : ev (d + 1) 206 1 [.ref (13 + i), .int (Int32.ofNat (strN i)), .int (Int32.ofNat c).toInt8.toInt32, .int 0] [] (fx ν) = some (some (.int (ixI (chS i) c)), fx ν) := by
    refine h.trans ?_
    rw [List.drop_zero]
    unfold ixI
    cases ixN (chS i) c with
    | none => rfl
    | some a =>
      show some (some (Value.int (Int32.ofNat (0 + a))), fx ν) = _
      rw [Nat.zero_add]
  rw [h', bnd_1, app1, e_205_6, bnd_1, app1, e_199_4, e_199_7, bnd_1, app1, e_198_1]
