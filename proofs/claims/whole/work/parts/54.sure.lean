/-! sure, worth -/
/-- partsSo ahead -/
theorem c87 (d : Nat) {ν : MM} {A T st H W S : Nat} {ht hs : Int32} {cs : List Cl} (hQ : QX ν A T st H W S ht hs cs) {c r k v h co si : Nat} {ts : List Int32} (hC : ClA ν c (3, 0, ts)) (hts : okTs 5 ts) (hR : RnV ν r k v h co si) : ∃ ν1, ev (d + 4) 87 0 [.ref 28, .ref c, .ref r, .int 0] [] (fx ν) = some (some (.long (Int64.ofNat (Mso cs T st H (tkn k v h si H) (fun r => sayT ts T (H + tkn k v h si H) (Int32.ofNat r)) * 2 ^ (48 - tkn k v h si H * T)))), fx ν1) ∧ Fr PS QS ν ν1 ∧ gI ν1 = gI ν := by
  obtain ⟨ν1, e1, f1, g⟩ := s_87 d (cl := (3, 0, ts)) (c := c) (what := 0) hts (by decide) hQ.1 hC hR
  obtain ⟨-, -, hc, -, hT4, -⟩ := hQ.1
  obtain ⟨-, -, hk, hv, h6, -, hsi, -⟩ := hR
  have hN := tkn_le (k := k) (v := v) H h6 hsi
  rw [Cso_eq cs hT4 hN, soW_0] at e1
  exact ⟨ν1, e1, f1, g⟩
theorem Mbound {cs : List Cl} (hc : okCs cs) {T : Nat} (hT : T ≤ 4) (st H : Nat) {N : Nat} (hN : N ≤ 12) (so : Nat → Bool) : N * T ≤ 48 ∧ 2 ^ (N * T) ≤ 281474976710656 ∧ 0 < 2 ^ (48 - N * T) ∧ Mso cs T st H N so ≤ 2 ^ (N * T) ∧ 2 ^ (N * T) * 2 ^ (48 - N * T) = 281474976710656 ∧ Mso cs T st H N so * 2 ^ (48 - N * T) ≤ 281474976710656 := by
  have hNT : N * T ≤ 48 := Nat.le_trans (Nat.mul_le_mul hN hT) (by decide)
  have hMl := Mso_le hc hT st H N so
  have e : 2 ^ (N * T) * 2 ^ (48 - N * T) = 281474976710656 := by
    rw [← Nat.pow_add, show N * T + (48 - N * T) = 48 by omega]
  refine ⟨hNT, p2_le hNT, Nat.pow_pos (by decide), hMl, e, ?_⟩
  rw [← e]
  exact Nat.mul_le_mul_right _ hMl
theorem q_sure (d : Nat) {ν : MM} {A T st H W S : Nat} {ht hs : Int32} {cs : List Cl} (hQ : QX ν A T st H W S ht hs cs) (v1 v2 : Int32) : QI (fun μ => ev (d + 6) 76 0 [.ref 28, .int v1, .int v2] [] (fx μ)) (fun μ => ev (d + 6) 161 0 [.ref 46, .int v1, .int v2] [] (fx μ)) ν := by
  obtain ⟨r50, r51, -⟩ := qR (d + 5) hQ
  obtain ⟨-, -, r116, r115, -⟩ := qR (d + 4) hQ
  have cs0 : ev (d + 6) 76 0 [.ref 28, .int v1, .int v2] [] (fx ν) = asN (rv (if okN S v1 = true then gR ν 32 v1.toNatClampNeg else none)) (some (some (.int (-1)), fx ν)) fun a => asN (rv (if okN W v2 = true then gR ν 33 v2.toNatClampNeg else none)) (some (some (.int (-1)), fx ν)) fun b => ev (d + 6) 76 5 [.ref 28, .ref a, .ref b] [] (fx ν) := by
    rw [e_76_0, r50, bnd_3, app1]
    refine (e_76_1 ..).trans ?_
    generalize (if okN S v1 = true then gR ν 32 v1.toNatClampNeg else none) = o1
    cases o1 with
    | none =>
      rw [asN_n, asN_n, r51, bnd_3, app1]
      refine (e_76_2 ..).trans ?_
      rw [asN_c, e_76_4]
    | some a =>
      rw [asN_s, asN_s, r51, bnd_3, app1]
      refine (e_76_2a ..).trans ?_
      generalize (if okN W v2 = true then gR ν 33 v2.toNatClampNeg else none) = o2
      cases o2 with
      | none => rw [asN_n, asN_n, e_76_3, e_76_4]
      | some b => rw [asN_s, asN_s, e_76_3a]
  by_cases c1 : okN S v1 = true
  · obtain ⟨y, cc, ts, ey, g1, hC, hY⟩ := hQ.2.2.2.2.2.at c1
    by_cases c2 : okN W v2 = true
    · obtain ⟨j, r, k, v, h, co, si, ej, hjW, hj, g2, hR, hm, -⟩ := hQ.2.2.2.2.1.at c2
      rw [if_pos c1, if_pos c2, g1, g2, asN_s, asN_s] at cs0
      obtain ⟨ν1, e1, f1, gg⟩ := c87 (d + 1) hQ hC hY.2.2 hR
      have hb1 : b01 (gI ν1 50 0) = true := by rw [gg]; exact hQ.2.1.2.2.1
      have r47 := f1.rowS (q := 47) rfl
      have hR' := hR
      obtain ⟨-, -, hk, hv, h6, -, hsi, -⟩ := hR'
      have hQ1 := hQ.fr f1 hb1
      have hM1 := hQ1.2.1
      have hm1 := hm.of r47 (S := 47) (S' := 47)
      obtain ⟨ν2, e2, f2, b2⟩ := s_158 d hj hM1 hQ1.2.2.1 (hY.of r47) hm1 hk hv h6 hsi
      have r47' := f2.rowS (q := 47) rfl
      obtain ⟨-, hc, -, hH, hH2, hT, hT4⟩ := hM1
      have hN := tkn_le (k := k) (v := v) H h6 hsi
      have tkE := s_143 (d + 4) (ν := ν2) hj (hm1.of r47' (S := 47) (S' := 47)) hk hv h6 (by rw [r47']; exact hH) hH2
      generalize tkn k v h si H = N at hN e1 e2 tkE
      obtain ⟨hNT, b0, b1, b3, b4, b5⟩ := Mbound hc hT4 st H hN (fun r => sayT ts T (H + N) (Int32.ofNat r))
      generalize hMe : Mso cs T st H N (fun r => sayT ts T (H + N) (Int32.ofNat r)) = M at e1 e2 b3 b5
      have hT2 : gI ν2 47 0 = Int32.ofNat T := by rw [r47']; exact hT
      have cls : ev (d + 6) 76 5 [.ref 28, .ref cc, .ref r] [] (fx ν) = some (some (.int (if M = 0 then 0 else if M = 2 ^ (N * T) then 2 else 1)), fx ν1) := by
        rw [e_76_5, e1, bnd_2, app1]
        refine (e_76_6 ..).trans ?_
        have q48 : (Int64.ofNat (M * 2 ^ (48 - N * T)) = 281474976710656) = (M * 2 ^ (48 - N * T) = 281474976710656) := L_eq (b := 281474976710656) (by omega) (by decide)
        have q0 : (Int64.ofNat (M * 2 ^ (48 - N * T)) = 0) = (M * 2 ^ (48 - N * T) = 0) := L_eq (b := 0) (by omega) (by decide)
        by_cases m1 : M = 2 ^ (N * T)
        · have n0 : ¬ M = 0 := by
            have : 0 < 2 ^ (N * T) := Nat.pow_pos (by decide)
            omega
          rw [if_pos (by rw [lg_cmp_eq, q48, m1]; exact b4), if_neg n0, if_pos m1, e_76_7]
        · have n1 : ¬ M * 2 ^ (48 - N * T) = 281474976710656 := by
            rw [← b4]
            exact fun e => m1 (Nat.eq_of_mul_eq_mul_right b1 e)
          rw [if_neg (by rw [lg_cmp_eq, q48]; exact n1), if_neg m1, e_76_8]
          by_cases m0 : M = 0
          · rw [if_pos (by rw [lg_cmp_eq, q0, m0, Nat.zero_mul]), if_pos m0, e_76_9, e_76_11]
          · rw [if_neg (by
              rw [lg_cmp_eq, q0]
              exact fun e => m0 ((Nat.mul_eq_zero.mp e).resolve_right (by omega))), if_neg m0, e_76_10, e_76_11]
      have mdl : ev (d + 6) 161 0 [.ref 46, .int v1, .int v2] [] (fx ν1) = some (some (.int (if M = 0 then 0 else if M = 2 ^ (N * T) then 2 else 1)), fx ν2) := by
        obtain ⟨-, -, r116, r115, -⟩ := qR (d + 4) hQ1
        rw [e_161_0, r116, bnd_1, app1]
        refine (e_161_1 ..).trans ?_
        rw [bI_0, if_pos c1, e_161_2, r115, bnd_1, app1]
        refine (e_161_3 ..).trans ?_
        rw [bI_0, if_pos c2, e_161_5, ey, ej, e2, bnd_2, app1]
        refine (e_161_6 ..).trans ?_
        have q0 : (Int64.ofNat M = 0) = (M = 0) := L_eq (b := 0) (by omega) (by decide)
        have q1 : (Int64.ofNat M = Int64.ofNat (2 ^ (N * T))) = (M = 2 ^ (N * T)) := L_eq (by omega) (by omega)
        by_cases m0 : M = 0
        · rw [if_pos (by rw [lg_cmp_eq, q0]; exact m0), if_pos m0, e_161_7, e_161_13]
        · rw [if_neg (by rw [lg_cmp_eq, q0]; exact m0), if_neg m0, e_161_8, tkE, bnd_1, app1]
          refine (e_161_9 ..).trans ?_
          rw [s_156 _ hT2 hNT, bnd_2, app1]
          refine (e_161_10 ..).trans ?_
          by_cases m1 : M = 2 ^ (N * T)
          · rw [if_pos (by rw [lg_cmp_eq, q1]; exact m1), if_pos m1, e_161_11, e_161_13]
          · rw [if_neg (by rw [lg_cmp_eq, q1]; exact m1), if_neg m1, e_161_12, e_161_13]
      exact ⟨_, ν1, ν2, cs0.trans cls, mdl, f1, f2, b2⟩
    · rw [if_pos c1, if_neg c2, g1, asN_s, asN_n] at cs0
      refine ⟨_, ν, ν, cs0, ?_, Fr.rf, Fr.rf, hQ.2.1.2.2.1⟩
      show ev (d + 6) 161 0 [.ref 46, .int v1, .int v2] [] (fx ν) = _
      rw [e_161_0, r116, bnd_1, app1]
      refine (e_161_1 ..).trans ?_
      rw [bI_0, if_pos c1, e_161_2, r115, bnd_1, app1]
      refine (e_161_3 ..).trans ?_
      rw [bI_0, if_neg c2, e_161_4]
  · rw [if_neg c1, asN_n] at cs0
    refine ⟨_, ν, ν, cs0, ?_, Fr.rf, Fr.rf, hQ.2.1.2.2.1⟩
    show ev (d + 6) 161 0 [.ref 46, .int v1, .int v2] [] (fx ν) = _
    rw [e_161_0, r116, bnd_1, app1]
    refine (e_161_1 ..).trans ?_
    rw [bI_0, if_neg c1, e_161_4]
