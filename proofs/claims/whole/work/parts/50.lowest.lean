/-! fractions in lowest terms -/
theorem L_63 : ∀ n, n < 64 → (Int32.ofNat n).toInt64 &&& 63 = Int64.ofNat n := by decide
theorem L_of {n : Nat} (h : n ≤ 1000000) : (Int32.ofNat n).toInt64 = Int64.ofNat n := by
  rw [← Int64.ofNat_int32ToNatClampNeg _ (Int32.zero_le_ofNat_of_lt (by omega)), tn_O h]
theorem O_mul (a b : Nat) : Int32.ofNat a * Int32.ofNat b = Int32.ofNat (a * b) := (Int32.ofNat_mul a b).symm
theorem s_156 (d : Nat) {ν : MM} {T N : Nat} (hT : gI ν 47 0 = Int32.ofNat T) (h : N * T ≤ 48) : ev (d + 1) 156 0 [.ref 46, .int (Int32.ofNat N)] [] (fx ν) = some (some (.long (Int64.ofNat (2 ^ (N * T)))), fx ν) := by
  rw [e_156_0, hT, O_mul, e_155_0, bnd_2, app1, L_63 _ (by omega), show (1 : Int64) = Int64.ofNat 1 from rfl, L_shl 1 _ (by omega), Nat.one_mul]
  exact e_156_1 ..
def J (z : Int) : Int64 := Int64.ofInt z
theorem J_nat (n : Nat) : Int64.ofNat n = J (n : Int) := Int64.ofInt_eq_ofNat.symm
def jin (z : Int) : Prop := -4611686018427387904 ≤ z ∧ z ≤ 4611686018427387904
theorem J_to {z : Int} (h : jin z) : (J z).toInt = z := Int64.toInt_ofInt_of_le (by unfold jin at h; omega) (by unfold jin at h; omega)
theorem J_eq {a b : Int} (ha : jin a) (hb : jin b) : (J a = J b) = (a = b) := by
  apply propext
  rw [← Int64.toInt_inj, J_to ha, J_to hb]
theorem J_le {a b : Int} (ha : jin a) (hb : jin b) : (J a ≤ J b) = (a ≤ b) := by
  apply propext
  rw [Int64.le_iff_toInt_le, J_to ha, J_to hb]
theorem J_lt {a b : Int} (ha : jin a) (hb : jin b) : (J a < J b) = (a < b) := by
  apply propext
  rw [Int64.lt_iff_toInt_lt, J_to ha, J_to hb]
theorem J_div {a b : Int} (ha : jin a) (hb : jin b) : J a / J b = J (a.tdiv b) := by
  unfold jin at ha hb
  have h1 : (Int64.minValue.toInt : Int) = -9223372036854775808 := rfl
  have h2 : (Int64.maxValue.toInt : Int) = 9223372036854775807 := rfl
  exact (Int64.ofInt_tdiv (by omega) (by omega) (by omega) (by omega)).symm
theorem J_mul (a b : Int) : J a * J b = J (a * b) := (Int64.ofInt_mul a b).symm
theorem J_sub (a b : Int) : J a - J b = J (a - b) := (Int64.ofInt_sub a b).symm
theorem J_add (a b : Int) : J a + J b = J (a + b) := (Int64.ofInt_add a b).symm
theorem J_neg (a : Int) : -J a = J (-a) := (Int64.ofInt_neg a).symm
theorem jin_n {n : Nat} (h : n ≤ 4611686018427387904) : jin (n : Int) := by unfold jin; omega
/-- the last of Euclid's numbers -/
theorem l_159 (d : Nat) {ν : MM} (v0 v2 : Int64) (v4 : Int32) : ∀ (n a b : Nat), b ≤ n → a ≤ 4611686018427387904 → b ≤ 4611686018427387904 → ev d 159 4 [.long v0, .long v2, .int v4, .long (Int64.ofNat a), .long (Int64.ofNat b)] [] (fx ν) = ev d 159 6 [.long v0, .long v2, .int v4, .long (Int64.ofNat (Nat.gcd a b))] [] (fx ν)
  | 0, a, b, h, _, _ => by
    have hb : b = 0 := by omega
    rw [e_159_4, if_pos (by rw [lg_cmp_eq, hb]; rfl), hb, Nat.gcd_zero_right]
  | n + 1, a, b, h, ha, hb => by
    by_cases c : b = 0
    · rw [e_159_4, if_pos (by rw [lg_cmp_eq, c]; rfl), c, Nat.gcd_zero_right]
    · have hz : ¬ Int64.ofNat b = 0 := by
        intro e
        have : (Int64.ofNat b = Int64.ofNat 0) = (b = 0) := L_eq (by omega) (by omega)
        exact c (this.mp e)
      have hr : a % b < b := Nat.mod_lt _ (by omega)
      have er : Int64.ofNat a - Int64.ofNat a / Int64.ofNat b * Int64.ofNat b = Int64.ofNat (a % b) := by
        rw [← Int64.ofNat_div (by omega) (by omega), L_mul, ← Int64.ofNat_sub _ _ (Nat.div_mul_le_self a b)]
        congr 1
        have := Nat.div_add_mod a b
        rw [Nat.mul_comm] at this
        omega
      rw [e_159_4, if_neg (by rw [lg_cmp_eq]; exact hz), e_159_5, decide_eq_false hz, Bool.not_false, gd_t, er, l_159 d v0 v2 v4 n b (a % b) (by omega) hb (by omega)]
      congr 6
      rw [Nat.gcd_comm b, ← Nat.gcd_rec, Nat.gcd_comm]
/-- in lowest terms: above, below -/
def lwR (z : Int) (e : Nat) (p : Int32) : Int64 := if p = 0 then J (z.tdiv (Nat.gcd z.natAbs (2 ^ e))) else Int64.ofNat (2 ^ e / Nat.gcd z.natAbs (2 ^ e))
theorem p2_le {e : Nat} (h : e ≤ 48) : 2 ^ e ≤ 281474976710656 := Nat.pow_le_pow_right (n := 2) (by decide) h
theorem s_159 (d : Nat) {ν : MM} {z : Int} (hz : jin z) {e : Nat} (he : e ≤ 48) (p : Int32) : ev d 159 0 [.long (J z), .long (Int64.ofNat (2 ^ e)), .int p] [] (fx ν) = some (some (.long (lwR z e p)), fx ν) := by
  have h2 := p2_le he
  have hp : 0 < 2 ^ e := Nat.pow_pos (by decide)
  have hg : 0 < Nat.gcd z.natAbs (2 ^ e) := Nat.gcd_pos_of_pos_right _ hp
  have hgl : Nat.gcd z.natAbs (2 ^ e) ≤ 2 ^ e := Nat.gcd_le_right _ hp
  have j0 : jin 0 := ⟨by decide, by decide⟩
  have hn : z.natAbs ≤ 4611686018427387904 := by unfold jin at hz; omega
  have hx : ev d 159 0 [.long (J z), .long (Int64.ofNat (2 ^ e)), .int p] [] (fx ν) = ev d 159 4 [.long (J z), .long (Int64.ofNat (2 ^ e)), .int p, .long (Int64.ofNat z.natAbs), .long (Int64.ofNat (2 ^ e))] [] (fx ν) := by
    rw [e_159_0]
    by_cases c : 0 ≤ z
    · rw [if_pos (by rw [lg_cmp_ge, show (0 : Int64) = J 0 from rfl, J_le j0 hz]; exact c), e_159_2, e_159_3, J_nat z.natAbs, show ((z.natAbs : Nat) : Int) = z by omega]
    · rw [if_neg (by rw [lg_cmp_ge, show (0 : Int64) = J 0 from rfl, J_le j0 hz]; exact c), e_159_1, e_159_3, J_nat z.natAbs, J_neg, show ((z.natAbs : Nat) : Int) = -z by omega]
  have gne : ¬ Int64.ofNat (Nat.gcd z.natAbs (2 ^ e)) = 0 := by
    intro c
    have : (Int64.ofNat (Nat.gcd z.natAbs (2 ^ e)) = Int64.ofNat 0) = (Nat.gcd z.natAbs (2 ^ e) = 0) := L_eq (by omega) (by omega)
    have := this.mp c
    omega
  rw [hx, l_159 d _ _ _ (2 ^ e) _ _ (Nat.le_refl _) hn (by omega), e_159_6]
  unfold lwR
  by_cases c : p = 0
  · rw [if_pos c, if_pos c, e_159_7, e_159_9, decide_eq_false gne, Bool.not_false, gd_t, J_nat, J_div hz (jin_n (by omega))]
  · rw [if_neg c, if_neg c, e_159_8, e_159_9, decide_eq_false gne, Bool.not_false, gd_t, ← Int64.ofNat_div (by omega) (by omega)]
/-- the class's halving -/
theorem l_94 (d : Nat) {ν : MM} (p : Int32) {Z : Int} : ∀ (k i : Nat) (a : Int), i + k = 48 → jin a → Z = a * 2 ^ i → ∃ (j : Nat) (b : Int), j ≤ 48 ∧ jin b ∧ Z = b * 2 ^ j ∧ Nat.gcd b.natAbs (2 ^ (48 - j)) = 1 ∧ ev d 94 1 [.int p, .long (J a), .long (Int64.ofNat (2 ^ (48 - i))), .int (Int32.ofNat i)] [] (fx ν) = ev d 94 4 [.int p, .long (J b), .long (Int64.ofNat (2 ^ (48 - j)))] [] (fx ν)
  | 0, i, a, hi, ha, hZ => ⟨i, a, by omega, ha, hZ, by rw [show 48 - i = 0 by omega]; exact Nat.gcd_one_right _, by rw [e_94_1, if_pos (by rw [show i = 48 by omega]; decide)]⟩
  | k + 1, i, a, hi, ha, hZ => by
    have h48 : ¬ (48 : Int32) ≤ Int32.ofNat i := by
      have : (Int32.ofNat 48 ≤ Int32.ofNat i) = (48 ≤ i) := O_le (by omega) (by omega)
      intro c
      have := this.mp c
      omega
    have j2 : jin 2 := ⟨by decide, by decide⟩
    have j0 : jin 0 := ⟨by decide, by decide⟩
    have er : J a - J a / 2 * 2 = J (a - a.tdiv 2 * 2) := by
      rw [show (2 : Int64) = J 2 from rfl, J_div ha j2, J_mul, J_sub]
    have hm := Int.mul_tdiv_add_tmod a 2
    have hm2 : a.tmod 2 = 0 ∨ a.tmod 2 = 1 ∨ a.tmod 2 = -1 := by
      rcases Int.lt_or_le a 0 with h | h
      · have e1 := Int.tmod_lt_of_pos (-a) (show (0 : Int) < 2 by decide)
        have e2 := Int.tmod_nonneg 2 (show 0 ≤ -a by omega)
        rw [Int.neg_tmod] at e1 e2
        omega
      · have e1 := Int.tmod_lt_of_pos a (show (0 : Int) < 2 by decide)
        have e2 := Int.tmod_nonneg 2 h
        omega
    have ev2 : a - a.tdiv 2 * 2 = a.tmod 2 := by omega
    have jd : jin (a - a.tdiv 2 * 2) := by rw [ev2]; unfold jin; omega
    by_cases c : a.tmod 2 = 0
    · have hb : jin (a.tdiv 2) := by unfold jin at ha ⊢; omega
      have hZ2 : Z = a.tdiv 2 * 2 ^ (i + 1) := by
        rw [hZ, Int.pow_succ, Int.mul_comm (2 ^ i) 2, ← Int.mul_assoc]
        congr 1
        omega
      obtain ⟨j, b, h1, h2, h3, h4, h5⟩ := l_94 d (ν := ν) p k (i + 1) (a.tdiv 2) (by omega) hb hZ2
      refine ⟨j, b, h1, h2, h3, h4, ?_⟩
      have hlow : Int64.ofNat (2 ^ (48 - i)) / 2 = Int64.ofNat (2 ^ (48 - (i + 1))) := by
        have hl := p2_le (e := 48 - i) (by omega)
        rw [L_half (by omega), show 48 - i = (48 - (i + 1)) + 1 by omega, Nat.pow_succ, Nat.mul_div_cancel _ (by decide)]
      rw [e_94_1, if_neg h48, e_94_2, if_pos (by rw [lg_cmp_eq, er, show (0 : Int64) = J 0 from rfl, J_eq jd j0, ev2]; exact c), e_94_3, hlow, O_succ, show (2 : Int64) = J 2 from rfl, J_div ha j2]
      exact h5
    · refine ⟨i, a, by omega, ha, hZ, ?_, ?_⟩
      · have hodd : a.natAbs % 2 = 1 := by omega
        apply Nat.Coprime.pow_right
        show Nat.gcd a.natAbs 2 = 1
        rw [Nat.gcd_comm, Nat.gcd_rec, hodd]
        rfl
      · rw [e_94_1, if_neg h48, e_94_2, if_neg (by rw [lg_cmp_eq, er, show (0 : Int64) = J 0 from rfl, J_eq jd j0, ev2]; exact c)]
theorem s_94 (d : Nat) {ν : MM} {z : Int} {e : Nat} (he : e ≤ 48) (hz : jin (z * ((2 ^ (48 - e) : Nat) : Int))) (p : Int32) : ev d 94 0 [.long (J (z * ((2 ^ (48 - e) : Nat) : Int))), .int p] [] (fx ν) = some (some (.long (lwR z e p)), fx ν) := by
  obtain ⟨j, b, h1, h2, h3, h4, h5⟩ := l_94 d (ν := ν) p 48 0 (z * ((2 ^ (48 - e) : Nat) : Int)) rfl hz (Int.mul_one _).symm
  have hk : 0 < 2 ^ (48 - e) := Nat.pow_pos (by decide)
  have hgz : 0 < Nat.gcd z.natAbs (2 ^ e) := Nat.gcd_pos_of_pos_right _ (Nat.pow_pos (by decide))
  have h3' : z * ((2 ^ (48 - e) : Nat) : Int) = b * ((2 ^ j : Nat) : Int) := by rw [h3]; congr 1
  have hG : Nat.gcd z.natAbs (2 ^ e) * 2 ^ (48 - e) = 2 ^ j := by
    have a1 : z.natAbs * 2 ^ (48 - e) = b.natAbs * 2 ^ j := by
      have := congrArg Int.natAbs h3'
      rw [Int.natAbs_mul, Int.natAbs_mul, Int.natAbs_natCast, Int.natAbs_natCast] at this
      exact this
    have a2 : 2 ^ e * 2 ^ (48 - e) = 2 ^ (48 - j) * 2 ^ j := by
      rw [← Nat.pow_add, ← Nat.pow_add, show e + (48 - e) = 48 - j + j by omega]
    rw [← Nat.gcd_mul_right, a1, a2, Nat.gcd_mul_right, h4, Nat.one_mul]
  have hb : z = b * (Nat.gcd z.natAbs (2 ^ e) : Nat) := by
    have : z * ((2 ^ (48 - e) : Nat) : Int) = b * (Nat.gcd z.natAbs (2 ^ e) : Nat) * ((2 ^ (48 - e) : Nat) : Int) := by
      rw [h3', ← hG, Int.natCast_mul, Int.mul_assoc]
    exact Int.eq_of_mul_eq_mul_right (by omega) this
  have hlo : 2 ^ e = 2 ^ (48 - j) * Nat.gcd z.natAbs (2 ^ e) := by
    have a2 : 2 ^ e * 2 ^ (48 - e) = 2 ^ (48 - j) * 2 ^ j := by
      rw [← Nat.pow_add, ← Nat.pow_add, show e + (48 - e) = 48 - j + j by omega]
    rw [← hG, ← Nat.mul_assoc] at a2
    exact Nat.eq_of_mul_eq_mul_right hk a2
  have q1 : z.tdiv (Nat.gcd z.natAbs (2 ^ e) : Nat) = b := by
    generalize Nat.gcd z.natAbs (2 ^ e) = g at hb hgz
    rw [hb]
    exact Int.mul_tdiv_cancel _ (by omega)
  have q2 : 2 ^ e / Nat.gcd z.natAbs (2 ^ e) = 2 ^ (48 - j) := by
    generalize Nat.gcd z.natAbs (2 ^ e) = g at hlo hgz
    rw [hlo]
    exact Nat.mul_div_cancel _ hgz
  unfold lwR
  rw [q1, q2, e_94_0]
  refine h5.trans ?_
  rw [e_94_4]
  by_cases c : p = 0
  · rw [if_pos c, if_pos c, e_94_5, e_94_7]
  · rw [if_neg c, if_neg c, e_94_6, e_94_7]
