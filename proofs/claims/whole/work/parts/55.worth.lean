/-! worth -/
theorem cst_n {cs : List Cl} (hc : okCs cs) {k v co H : Nat} (hv : v ≤ 9) (hco : co ≤ 99) : ∃ n, n ≤ 1098 ∧ cst k v co cs H = Int32.ofNat n := by
  obtain ⟨n, h1, h2, -⟩ := tog_n (fb (by4 9 9 (Int32.ofNat (H % 12)) (Int32.ofNat k))) hc.1 hc.2.1 2
  unfold cst
  rw [h2]
  by_cases c : k = 4
  · rw [if_pos c, O_add, O_add]
    exact ⟨_, by omega, rfl⟩
  · rw [if_neg c, show (0 : Int32) = Int32.ofNat 0 from rfl, O_add, O_add]
    exact ⟨_, by omega, rfl⟩
theorem z_E (a b c M D E : Int) : (a * M - b * (D - M) - c * D) * E = a * (M * E) - b * (D * E - M * E) - c * (D * E) := by
  rw [Int.sub_mul, Int.sub_mul, Int.mul_assoc, Int.mul_assoc, Int.mul_assoc, Int.sub_mul]
theorem NOe : (-9223372036854775808 : Int64) = Int64.minValue := rfl
theorem q_worth (d : Nat) {ν : MM} {A T st H W S : Nat} {ht hs : Int32} {cs : List Cl} (hQ : QX ν A T st H W S ht hs cs) (v1 v2 v3 v4 v5 : Int32) : QL (fun μ => ev (d + 6) 79 0 [.ref 28, .int v1, .int v2, .int v3, .int v4, .int v5] [] (fx μ)) (fun μ => ev (d + 6) 165 0 [.ref 46, .int v1, .int v2, .int v3, .int v4, .int v5] [] (fx μ)) ν := by
  obtain ⟨r50, r51, -⟩ := qR (d + 5) hQ
  have cs0 : ev (d + 6) 79 0 [.ref 28, .int v1, .int v2, .int v3, .int v4, .int v5] [] (fx ν) = asN (rv (if okN S v1 = true then gR ν 32 v1.toNatClampNeg else none)) (some (some (.long (-9223372036854775808)), fx ν)) fun a => asN (rv (if okN W v2 = true then gR ν 33 v2.toNatClampNeg else none)) (some (some (.long (-9223372036854775808)), fx ν)) fun b => if (((rg 0 99 v3 && rg 0 99 v4) && rg 0 1 v5)) = true then ev (d + 6) 79 11 [.ref 28, .int v3, .int v4, .int v5, .ref a, .ref b] [] (fx ν) else some (some (.long (-9223372036854775808)), fx ν) := by
    rw [e_79_0, r50, bnd_3, app1]
    refine (e_79_1 ..).trans ?_
    generalize (if okN S v1 = true then gR ν 32 v1.toNatClampNeg else none) = o1
    cases o1 with
    | none =>
      rw [asN_n, asN_n, r51, bnd_3, app1]
      refine (e_79_2 ..).trans ?_
      rw [asN_c, e_79_10]
    | some a =>
      rw [asN_s, asN_s, r51, bnd_3, app1]
      refine (e_79_2a ..).trans ?_
      generalize (if okN W v2 = true then gR ν 33 v2.toNatClampNeg else none) = o2
      cases o2 with
      | none => rw [asN_n, asN_n, e_79_3, e_79_10]
      | some b =>
        rw [asN_s, asN_s, e_79_3a, e_79_4, e_79_5, e_79_6, e_79_7, e_79_8, s_106, bnd_1, app1, e_79_10]
        unfold rg
        by_cases a1 : v3 < 0
        · rw [if_pos a1, decide_eq_true a1]; rfl
        · by_cases a2 : 99 < v3
          · rw [if_neg a1, if_pos a2, decide_eq_true a2, decide_eq_false a1]; rfl
          · by_cases a3 : v4 < 0
            · rw [if_neg a1, if_neg a2, if_pos a3, decide_eq_true a3, decide_eq_false a2, decide_eq_false a1]; rfl
            · by_cases a4 : 99 < v4
              · rw [if_neg a1, if_neg a2, if_neg a3, if_pos a4, decide_eq_true a4, decide_eq_false a3, decide_eq_false a2, decide_eq_false a1]; rfl
              · rw [if_neg a1, if_neg a2, if_neg a3, if_neg a4, decide_eq_false a4, decide_eq_false a3, decide_eq_false a2, decide_eq_false a1]
                refine (e_79_9 ..).trans ?_
                rw [bI_0, e_79_10]
                show _ = if rg 0 1 v5 = true then _ else _
                rfl
  have no : ∀ ok : Bool, ok = ((((okN S v1 && okN W v2) && rg 0 99 v3) && rg 0 99 v4) && rg 0 1 v5) → ok = false → ev (d + 6) 165 0 [.ref 46, .int v1, .int v2, .int v3, .int v4, .int v5] [] (fx ν) = some (some (.long (-9223372036854775808)), fx ν) := by
    intro ok hok hf
    rw [hok] at hf
    obtain ⟨-, -, r116, r115, -⟩ := qR (d + 4) hQ
    rw [e_165_0, r116, bnd_1, app1]
    refine (e_165_1 ..).trans ?_
    rw [bI_0]
    by_cases h1 : okN S v1 = true
    · rw [if_pos h1, e_165_2, r115, bnd_1, app1]
      refine (e_165_3 ..).trans ?_
      rw [bI_0]
      by_cases h2 : okN W v2 = true
      · rw [if_pos h2, e_165_4, s_113r, bnd_1, app1]
        refine (e_165_5 ..).trans ?_
        rw [bI_0]
        by_cases h3 : rg 0 99 v3 = true
        · rw [if_pos h3, e_165_6, s_113r, bnd_1, app1]
          refine (e_165_7 ..).trans ?_
          rw [bI_0]
          by_cases h4 : rg 0 99 v4 = true
          · rw [if_pos h4, e_165_8, s_113r, bnd_1, app1]
            refine (e_165_9 ..).trans ?_
            rw [h1, h2, h3, h4] at hf
            have hp : rg 0 1 v5 = false := hf
            rw [hp, bI_f, if_pos rfl, e_165_10]
          · rw [if_neg h4, e_165_10]
        · rw [if_neg h3, e_165_10]
      · rw [if_neg h2, e_165_10]
    · rw [if_neg h1, e_165_10]
  by_cases c1 : okN S v1 = true
  case neg =>
    rw [if_neg c1, asN_n] at cs0
    exact ⟨_, ν, ν, cs0, no _ rfl (by rw [Bool.eq_false_iff.mpr c1]; rfl), Fr.rf, Fr.rf, hQ.2.1.2.2.1⟩
  obtain ⟨y, cc, ts, ey, g1, hC, hY⟩ := hQ.2.2.2.2.2.at c1
  by_cases c2 : okN W v2 = true
  case neg =>
    rw [if_pos c1, if_neg c2, g1, asN_s, asN_n] at cs0
    exact ⟨_, ν, ν, cs0, no _ rfl (by rw [Bool.eq_false_iff.mpr c2, Bool.and_false]; rfl), Fr.rf, Fr.rf, hQ.2.1.2.2.1⟩
  obtain ⟨j, r, k, v, h, co, si, ej, hjW, hj, g2, hR, hm, -⟩ := hQ.2.2.2.2.1.at c2
  rw [if_pos c1, if_pos c2, g1, g2, asN_s, asN_s] at cs0
  by_cases c3 : ((rg 0 99 v3 && rg 0 99 v4) && rg 0 1 v5) = true
  case neg =>
    rw [if_neg c3] at cs0
    exact ⟨_, ν, ν, cs0, no _ rfl (by rw [c1, c2]; exact Bool.eq_false_iff.mpr c3), Fr.rf, Fr.rf, hQ.2.1.2.2.1⟩
  rw [if_pos c3] at cs0
  obtain ⟨c34, c5⟩ := Bool.and_eq_true_iff.mp c3
  obtain ⟨c3', c4⟩ := Bool.and_eq_true_iff.mp c34
  obtain ⟨a, ha, ea⟩ := rg_n (hi := 99) (by decide) c3'
  obtain ⟨b, hb, eb⟩ := rg_n (hi := 99) (by decide) c4
  obtain ⟨ν1, e1, f1, gg⟩ := c87 (d + 1) hQ hC hY.2.2 hR
  have hb1 : b01 (gI ν1 50 0) = true := by rw [gg]; exact hQ.2.1.2.2.1
  have r47 := f1.rowS (q := 47) rfl
  have hR' := hR
  obtain ⟨-, -, hk, hv, h6, hco, hsi, -⟩ := hR'
  have hQ1 := hQ.fr f1 hb1
  obtain ⟨hA, hCo, hcs, -, -, -, -, hHc, -⟩ := hQ1.1
  have ecost := s_56 (d + 2) hA hCo hcs.2.2 hHc (by have := hQ.1.2.2.2.2.2.2.2.2.1; omega) (hR.fr f1)
  have hM1 := hQ1.2.1
  have hm1 := hm.of r47 (S := 47) (S' := 47)
  obtain ⟨ν2, e2, f2, b2⟩ := s_158 d hj hM1 hQ1.2.2.1 (hY.of r47) hm1 hk hv h6 hsi
  have r47' := f2.rowS (q := 47) rfl
  have hM2 := hM1.of r47' b2
  obtain ⟨hMC, hc, -, hH, hH2, hT, hT4⟩ := hM2
  have hm2 := hm1.of r47' (S := 47) (S' := 47)
  have tkE := s_143 (d + 4) (ν := ν2) hj hm2 hk hv h6 hH hH2
  obtain ⟨ν3, e3, f3, b3⟩ := s_144 (d + 2) hj hMC hc.2.2 b2 hH (by omega) hk hm2
  obtain ⟨c, hcn, hce⟩ := cst_n hc (k := k) (v := v) (co := co) (H := H) hv hco
  rw [hce] at ecost e3
  have hN := tkn_le (k := k) (v := v) H h6 hsi
  generalize tkn k v h si H = N at hN e1 e2 tkE
  obtain ⟨hNT, d0, d1, d3, d4, d5⟩ := Mbound hc hT4 st H hN (fun r => sayT ts T (H + N) (Int32.ofNat r))
  generalize hMe : Mso cs T st H N (fun r => sayT ts T (H + N) (Int32.ofNat r)) = M at e1 e2 d3 d5
  have p1 : a * (M * 2 ^ (48 - N * T)) ≤ 99 * 281474976710656 := Nat.mul_le_mul ha d5
  have p2 : b * (281474976710656 - M * 2 ^ (48 - N * T)) ≤ 99 * 281474976710656 := Nat.mul_le_mul hb (by omega)
  have p1' : a * M ≤ 99 * 281474976710656 := Nat.mul_le_mul ha (by omega)
  have p2' : b * (2 ^ (N * T) - M) ≤ 99 * 281474976710656 := Nat.mul_le_mul hb (by omega)
  have p3' : c * 2 ^ (N * T) ≤ 1098 * 281474976710656 := Nat.mul_le_mul hcn d0
  have zz : ((a : Int) * M - b * (((2 ^ (N * T) : Nat) : Int) - M) - c * ((2 ^ (N * T) : Nat) : Int)) * ((2 ^ (48 - N * T) : Nat) : Int) = a * ((M * 2 ^ (48 - N * T) : Nat) : Int) - b * (281474976710656 - ((M * 2 ^ (48 - N * T) : Nat) : Int)) - c * 281474976710656 := by
    have d4' : ((2 ^ (N * T) : Nat) : Int) * ((2 ^ (48 - N * T) : Nat) : Int) = 281474976710656 := by
      rw [← Int.natCast_mul, d4]
      rfl
    rw [z_E, d4', ← Int.natCast_mul M]
  have j1 : jin (a * ((M * 2 ^ (48 - N * T) : Nat) : Int) - b * (281474976710656 - ((M * 2 ^ (48 - N * T) : Nat) : Int)) - c * 281474976710656) := by
    have x1 : (a : Int) * ((M * 2 ^ (48 - N * T) : Nat) : Int) = ((a * (M * 2 ^ (48 - N * T)) : Nat) : Int) := (Int.natCast_mul _ _).symm
    have x2 : (b : Int) * (281474976710656 - ((M * 2 ^ (48 - N * T) : Nat) : Int)) = ((b * (281474976710656 - M * 2 ^ (48 - N * T)) : Nat) : Int) := by
      rw [Int.natCast_mul b, Int.ofNat_sub d5]
      rfl
    rw [x1, x2]
    unfold jin
    omega
  have j2 : jin ((a : Int) * M - b * (((2 ^ (N * T) : Nat) : Int) - M) - c * ((2 ^ (N * T) : Nat) : Int)) := by
    have x1 : (a : Int) * M = ((a * M : Nat) : Int) := (Int.natCast_mul _ _).symm
    have x2 : (b : Int) * (((2 ^ (N * T) : Nat) : Int) - M) = ((b * (2 ^ (N * T) - M) : Nat) : Int) := by
      rw [Int.natCast_mul, Int.ofNat_sub d3]
    have x3 : (c : Int) * ((2 ^ (N * T) : Nat) : Int) = ((c * 2 ^ (N * T) : Nat) : Int) := (Int.natCast_mul _ _).symm
    rw [x1, x2, x3]
    unfold jin
    omega
  have la := L_of (n := a) (by omega)
  have lb := L_of (n := b) (by omega)
  have lc := L_of (n := c) (by omega)
  have e94 := s_94 (d + 5) (ν := ν1) (z := (a : Int) * M - b * (((2 ^ (N * T) : Nat) : Int) - M) - c * ((2 ^ (N * T) : Nat) : Int)) hNT (by rw [zz]; exact j1) v5
  rw [zz] at e94
  have e159 := s_159 (d + 5) (ν := ν3) j2 hNT v5
  refine ⟨_, ν1, ν3, cs0.trans (?_ : _ = some (some (Value.long (lwR ((a : Int) * M - b * (((2 ^ (N * T) : Nat) : Int) - M) - c * ((2 ^ (N * T) : Nat) : Int)) (N * T) v5)), fx ν1)), ?_, f1, f2.tr f3.s, b3⟩
  · rw [e_79_11, e1, bnd_2, app1]
    refine (e_79_12 ..).trans ?_
    rw [ecost, bnd_1, app1]
    refine (e_79_13 ..).trans ?_
    have eL : (v3.toInt64 * Int64.ofNat (M * 2 ^ (48 - N * T)) - v4.toInt64 * (281474976710656 - Int64.ofNat (M * 2 ^ (48 - N * T)))) - (Int32.ofNat c).toInt64 * 281474976710656 = J (a * ((M * 2 ^ (48 - N * T) : Nat) : Int) - b * (281474976710656 - ((M * 2 ^ (48 - N * T) : Nat) : Int)) - c * 281474976710656) := by
      rw [ea, eb, la, lb, lc, J_nat, J_nat, J_nat, J_nat, show (281474976710656 : Int64) = J 281474976710656 from rfl, J_mul, J_sub, J_mul, J_sub, J_mul, J_sub]
    rw [eL, e94, bnd_2, app1]
    exact e_79_14 ..
  · obtain ⟨-, -, r116, r115, -⟩ := qR (d + 4) hQ1
    show ev (d + 6) 165 0 [.ref 46, .int v1, .int v2, .int v3, .int v4, .int v5] [] (fx ν1) = _
    rw [e_165_0, r116, bnd_1, app1]
    refine (e_165_1 ..).trans ?_
    rw [bI_0, if_pos c1, e_165_2, r115, bnd_1, app1]
    refine (e_165_3 ..).trans ?_
    rw [bI_0, if_pos c2, e_165_4, s_113r, bnd_1, app1]
    refine (e_165_5 ..).trans ?_
    rw [bI_0, if_pos c3', e_165_6, s_113r, bnd_1, app1]
    refine (e_165_7 ..).trans ?_
    rw [bI_0, if_pos c4, e_165_8, s_113r, bnd_1, app1]
    refine (e_165_9 ..).trans ?_
    rw [bI_0, if_pos c5, e_165_11, ey, ej, e2, bnd_2, app1]
    refine (e_165_12 ..).trans ?_
    rw [tkE, bnd_1, app1]
    refine (e_165_13 ..).trans ?_
    rw [s_156 _ hT hNT, bnd_2, app1]
    refine (e_165_14 ..).trans ?_
    rw [e3, bnd_1, app1]
    refine (e_165_15 ..).trans ?_
    have eL : (v3.toInt64 * Int64.ofNat M - v4.toInt64 * (Int64.ofNat (2 ^ (N * T)) - Int64.ofNat M)) - (Int32.ofNat c).toInt64 * Int64.ofNat (2 ^ (N * T)) = J ((a : Int) * M - b * (((2 ^ (N * T) : Nat) : Int) - M) - c * ((2 ^ (N * T) : Nat) : Int)) := by
      rw [ea, eb, la, lb, lc, J_nat a, J_nat b, J_nat c, J_nat M, J_nat (2 ^ (N * T)), J_mul, J_sub, J_mul, J_sub, J_mul, J_sub]
    rw [eL, e159, bnd_2, app1]
    exact e_165_16 ..
