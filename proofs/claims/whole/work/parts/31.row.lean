/-! facts of a row; whether a number is there -/
/-- factsOfRow -/
theorem l_55 (d : Nat) {ν : MM} {T : Nat} (hT : gI ν 29 8 = Int32.ofNat T) (hT4 : T ≤ 4) (row x : Int32) {i : Nat} (hi : i < 4) : ev (d + 1) 55 1 [.ref 29, .int row, .int x, .int (Int32.ofNat i)] [] (fx ν) = ev (d + 1) 55 1 [.ref 29, .int row, .int (x ||| rwf T row i <<< ((4 * Int32.ofNat i) &&& 31)), .int (Int32.ofNat (i + 1))] [] (fx ν) := by
  have h4 : ¬ (4 : Int32) ≤ Int32.ofNat i := by
    have q : ∀ i, i < 4 → ¬ (4 : Int32) ≤ Int32.ofNat i := by decide
    exact q i hi
  rw [e_55_1, if_neg h4, e_55_2, hT]
  unfold rwf
  by_cases c : T ≤ i
  · rw [if_pos c, if_pos (by rw [O_le (by omega) (by omega)]; exact c), e_55_5, e_55_6, O_succ]
  · rw [if_neg c, if_neg (by rw [O_le (by omega) (by omega)]; exact c), e_55_3, s_107, bnd_1, app1]
    refine (e_55_4 ..).trans ?_
    rw [e_55_6, O_succ]
theorem s_55 (d : Nat) {ν : MM} {T : Nat} (hT : gI ν 29 8 = Int32.ofNat T) (hT4 : T ≤ 4) (row : Int32) {h : Nat} (hh : h ≤ 100000) : ev (d + 1) 55 0 [.ref 29, .int row, .int (Int32.ofNat h)] [] (fx ν) = some (some (.int (packR (rwf T row) (Int32.ofNat (h % 12)))), fx ν) := by
  rw [e_55_0, O_rem12 (by omega)]
  have n16 : (16 : Int32) &&& 31 = 16 := rfl
  rw [n16]
  show ev (d + 1) 55 1 [.ref 29, .int row, .int (Int32.ofNat (h % 12) <<< (16 : Int32)), .int (Int32.ofNat 0)] [] (fx ν) = _
  rw [l_55 d hT hT4 row _ (by decide), l_55 d hT hT4 row _ (by decide), l_55 d hT hT4 row _ (by decide), l_55 d hT hT4 row _ (by decide), e_55_1, if_pos (by decide), e_55_7]
  rfl
/-- whether a number is one of n -/
def okN (n : Nat) (v : Int32) : Bool := !decide (v < 0) && decide (v < Int32.ofNat n)
theorem ite_f (c : Prop) [Decidable c] (b : Bool) (μ : MM) : (if c then some (some (Value.int 0), μ) else some (some (Value.int (bI b)), μ) : Rs) = some (some (.int (bI (!decide c && b))), μ) := by
  by_cases h : c
  · rw [if_pos h, decide_eq_true h]; rfl
  · rw [if_neg h, decide_eq_false h]; rfl
theorem s_113 (d : Nat) (v lo hi : Int32) (ν : MM) : ev d 113 0 [.int v, .int lo, .int hi] [] (fx ν) = some (some (.int (bI (!decide (v < lo) && !decide (hi < v)))), fx ν) := by
  rw [e_113_0, e_113_1, e_113_3, e_113_2, e_113_4, e_113_4, b01_0, b01_1, gd_t, gd_t, ite_01, ite_f]
theorem okN_m {n : Nat} (hn : n ≤ 5) (v : Int32) : (!decide (v < 0) && !decide (Int32.ofNat n - 1 < v)) = okN n v := by
  unfold okN
  congr 1
  rw [Bool.eq_iff_iff, Bool.not_eq_true', decide_eq_false_iff_not, decide_eq_true_iff, Int32.lt_iff_toInt_lt, Int32.lt_iff_toInt_lt]
  have q : ∀ n, n ≤ 5 → (Int32.ofNat n - 1).toInt = (Int32.ofNat n).toInt - 1 := by decide
  rw [q n hn]
  omega
theorem s_114 (d : Nat) {ν : MM} {T : Nat} (hT : gI ν 47 0 = Int32.ofNat T) (hT4 : T ≤ 5) (v : Int32) : ev (d + 1) 114 0 [.ref 46, .int v] [] (fx ν) = some (some (.int (bI (okN T v))), fx ν) := by
  rw [e_114_0, hT, s_113, bnd_1, app1, okN_m hT4]
  refine (e_114_1 ..).trans ?_
  rw [b01_bI, gd_t]
theorem s_115 (d : Nat) {ν : MM} {T : Nat} (hT : gI ν 47 1 = Int32.ofNat T) (hT4 : T ≤ 5) (v : Int32) : ev (d + 1) 115 0 [.ref 46, .int v] [] (fx ν) = some (some (.int (bI (okN T v))), fx ν) := by
  rw [e_115_0, hT, s_113, bnd_1, app1, okN_m hT4]
  refine (e_115_1 ..).trans ?_
  rw [b01_bI, gd_t]
theorem s_116 (d : Nat) {ν : MM} {T : Nat} (hT : gI ν 47 2 = Int32.ofNat T) (hT4 : T ≤ 5) (v : Int32) : ev (d + 1) 116 0 [.ref 46, .int v] [] (fx ν) = some (some (.int (bI (okN T v))), fx ν) := by
  rw [e_116_0, hT, s_113, bnd_1, app1, okN_m hT4]
  refine (e_116_1 ..).trans ?_
  rw [b01_bI, gd_t]
