theorem m178_no (d : Nat) {ν : MM} {A T st H W S : Nat} {ht hs : Int32} {cs : List Cl} (hQ : QX ν A T st H W S ht hs cs) (v1 v2 v3 v4 : Int32) (h : (((okN S v1 && okN W v2) && rg 0 2 v3) && rg 0 1 v4) = false) : ev (d + 2) 178 0 [.ref 46, .int v1, .int v2, .int v3, .int v4] [] (fx ν) = some (some (.long (-9223372036854775808)), fx ν) := by
  obtain ⟨-, -, r116, r115, -⟩ := qR d hQ
  rw [e_178_0, r116, bnd_1, app1]
  refine (e_178_1 ..).trans ?_
  rw [bI_0]
  by_cases h1 : okN S v1 = true
  · rw [if_pos h1, e_178_2, r115, bnd_1, app1]
    refine (e_178_3 ..).trans ?_
    rw [bI_0]
    by_cases h2 : okN W v2 = true
    · rw [if_pos h2, e_178_4, s_113r, bnd_1, app1]
      refine (e_178_5 ..).trans ?_
      rw [bI_0]
      by_cases h3 : rg 0 2 v3 = true
      · rw [if_pos h3, e_178_6, s_113r, bnd_1, app1]
        refine (e_178_7 ..).trans ?_
        rw [h1, h2, h3] at h
        have hp : rg 0 1 v4 = false := h
        rw [hp, bI_f, if_pos rfl, e_178_8]
      · rw [if_neg h3, e_178_8]
    · rw [if_neg h2, e_178_8]
  · rw [if_neg h1, e_178_8]
theorem m178_ok (d : Nat) {ν : MM} {A T st H W S : Nat} {ht hs : Int32} {cs : List Cl} (hQ : QX ν A T st H W S ht hs cs) {j k v h co si y what : Nat} {ts : List Int32} {v4 : Int32} (h1 : okN S (Int32.ofNat y) = true) (hY : MY ν y ts) (h2 : okN W (Int32.ofNat j) = true) (hj : j < 5) (hm : MwV ν 47 j k v h co si) (hk : k < 7) (hv : v ≤ 9) (h6 : h ≤ 6) (hsi : si ≤ 6) (hw : what < 3) (h4 : rg 0 1 v4 = true) : ∃ ν', ev (d + 5) 178 0 [.ref 46, .int (Int32.ofNat y), .int (Int32.ofNat j), .int (Int32.ofNat what), .int v4] [] (fx ν) = some (some (.long (lwR (Mso cs T st H (tkn k v h si H) (soW ts T (H + tkn k v h si H) ht hs what)) (tkn k v h si H * T) v4)), fx ν') ∧ Fr PS QS ν ν' ∧ b01 (gI ν' 50 0) = true := by
  obtain ⟨-, -, r116, r115, -⟩ := qR (d + 3) hQ
  obtain ⟨-, hM, hS, ⟨h8, h9⟩, -⟩ := hQ
  have hM' := hM
  obtain ⟨-, hc, hb, hH, hH2, hT, hT4⟩ := hM'
  have hN := tkn_le (k := k) (v := v) H h6 hsi
  have h256 := p4_le hT4
  have hNT : tkn k v h si H * T ≤ 48 := Nat.le_trans (Nat.mul_le_mul hN hT4) (by decide)
  have tkE := s_143 (d + 3) (ν := ν) hj hm hk hv h6 hH hH2
  generalize tkn k v h si H = N at hN tkE hNT ⊢
  have hMl := Mso_le hc hT4 st H N (soW ts T (H + N) ht hs what)
  have hp2 := p2_le hNT
  obtain ⟨ν1, e1, f1, g1, w1⟩ := s_149 (d + 3) (ν := ν) (st := st) (Nat.lt_of_lt_of_le hS.1 h256)
  have r1 := f1.rowS (q := 47) rfl
  have hM1 : MO ν1 T H cs := hM.of r1 (by rw [g1]; exact hb)
  obtain ⟨ν2, e2, f2, b2, w2⟩ := s_152 d (N := N) (by omega) hM1 _ w1
  have r2 := f2.rowS (q := 47) rfl
  have hM2 := hM1.of r2 b2
  obtain ⟨ν3, e3, f3, b3⟩ := l_178 (d + 2) (st := st) (k := y) (ts := ts) (ht := ht) (hs := hs) hN hw (w := WH cs T st H N) (fun t ht => WH_o cs st H _ ht) v4 (4 ^ T) 0 ν2 (by omega) hM2 (hY.of (by rw [r2, r1])) (by rw [r2, r1]; exact h8) (by rw [r2, r1]; exact h9) w2
  have r3 := f3.rowS (q := 47) rfl
  have hT3 : gI ν3 47 0 = Int32.ofNat T := by rw [r3, r2, r1]; exact hT
  refine ⟨ν3, ?_, f1.tr (f2.tr f3), b3⟩
  have q3 : rg 0 2 (Int32.ofNat what) = true := by
    have q : ∀ w, w < 3 → rg 0 2 (Int32.ofNat w) = true := by decide
    exact q what hw
  rw [e_178_0, r116, bnd_1, app1]
  refine (e_178_1 ..).trans ?_
  rw [bI_0, if_pos h1, e_178_2, r115, bnd_1, app1]
  refine (e_178_3 ..).trans ?_
  rw [bI_0, if_pos h2, e_178_4, s_113r, bnd_1, app1]
  refine (e_178_5 ..).trans ?_
  rw [bI_0, if_pos q3, e_178_6, s_113r, bnd_1, app1]
  refine (e_178_7 ..).trans ?_
  rw [bI_0, if_pos h4, e_178_9, tkE, bnd_1, app1]
  refine (e_178_10 ..).trans ?_
  rw [s_150 _ hT hT4 hS.1 hS.2, bnd_1, app1]
  refine (e_178_11 ..).trans ?_
  rw [e1, bnd_0, app0]
  refine (e_178_12 ..).trans ?_
  rw [e2, bnd_0, app0]
  refine (e_178_13 ..).trans ?_
  refine e3.trans ?_
  rw [e_178_33, s_156 _ hT3 hNT, bnd_2, app1]
  refine (e_178_34 ..).trans ?_
  rw [J_nat, s_159 _ (jin_n (by omega)) hNT, bnd_2, app1]
  exact e_178_35 ..
theorem q_self (d : Nat) {ν : MM} {A T st H W S : Nat} {ht hs : Int32} {cs : List Cl} (hQ : QX ν A T st H W S ht hs cs) (v1 v2 v3 v4 : Int32) : QL (fun μ => ev (d + 5) 85 0 [.ref 28, .int v1, .int v2, .int v3, .int v4] [] (fx μ)) (fun μ => ev (d + 5) 178 0 [.ref 46, .int v1, .int v2, .int v3, .int v4] [] (fx μ)) ν := by
  by_cases c : (((okN S v1 && okN W v2) && rg 0 2 v3) && rg 0 1 v4) = true
  · obtain ⟨c123, c4⟩ := Bool.and_eq_true_iff.mp c
    obtain ⟨c12, c3⟩ := Bool.and_eq_true_iff.mp c123
    obtain ⟨c1, c2⟩ := Bool.and_eq_true_iff.mp c12
    obtain ⟨what, hw, rfl⟩ := rg_n (hi := 2) (by decide) c3
    obtain ⟨y, cc, ts, rfl, g1, hC, hY⟩ := hQ.2.2.2.2.2.at c1
    obtain ⟨j, r, k, v, h, co, si, rfl, hjW, hj, g2, hR, hm, -⟩ := hQ.2.2.2.2.1.at c2
    obtain ⟨ν1, e1, f1, gg⟩ := c85_ok d hQ (what := what) c1 g1 hC hY.2.2 c2 g2 hR (by omega) c4
    have hb1 : b01 (gI ν1 50 0) = true := by rw [gg]; exact hQ.2.1.2.2.1
    have r47 := f1.rowS (q := 47) rfl
    have hR' := hR
    obtain ⟨-, -, hk, hv, h6, -, hsi, -⟩ := hR'
    obtain ⟨ν2, e2, f2, b2⟩ := m178_ok d (hQ.fr f1 hb1) c1 (hY.of r47) c2 hj (hm.of r47) hk hv h6 hsi (show what < 3 by omega) c4
    exact ⟨_, ν1, ν2, e1, e2, f1, f2, b2⟩
  · have c := Bool.eq_false_iff.mpr c
    exact ⟨_, ν, ν, c85_no (d + 4) hQ v1 v2 v3 v4 c, m178_no (d + 3) hQ v1 v2 v3 v4 c, Fr.rf, Fr.rf, hQ.2.1.2.2.1⟩
theorem soW_0 (ts : List Int32) (T h : Nat) (ht hs : Int32) : soW ts T h ht hs 0 = fun r => sayT ts T h (Int32.ofNat r) := by
  funext r
  unfold soW
  rw [decide_eq_false (by decide), decide_eq_true rfl, Bool.false_or, Bool.true_or, Bool.and_true]
/-- the model's odds -/
theorem m160 (d : Nat) {ν : MM} {A T st H W S : Nat} {ht hs : Int32} {cs : List Cl} (hQ : QX ν A T st H W S ht hs cs) {j k v h co si y : Nat} {ts : List Int32} {v4 : Int32} (h1 : okN S (Int32.ofNat y) = true) (hY : MY ν y ts) (h2 : okN W (Int32.ofNat j) = true) (hj : j < 5) (hm : MwV ν 47 j k v h co si) (hk : k < 7) (hv : v ≤ 9) (h6 : h ≤ 6) (hsi : si ≤ 6) (h4 : rg 0 1 v4 = true) : ∃ ν', ev (d + 6) 160 0 [.ref 46, .int (Int32.ofNat y), .int (Int32.ofNat j), .int v4] [] (fx ν) = some (some (.long (lwR (Mso cs T st H (tkn k v h si H) (soW ts T (H + tkn k v h si H) ht hs 0)) (tkn k v h si H * T) v4)), fx ν') ∧ Fr PS QS ν ν' ∧ b01 (gI ν' 50 0) = true := by
  obtain ⟨-, -, r116, r115, -⟩ := qR (d + 4) hQ
  obtain ⟨-, hM, hS, -⟩ := hQ
  have hM' := hM
  obtain ⟨-, hc, hb, hH, hH2, hT, hT4⟩ := hM'
  obtain ⟨ν1, e1, f1, b1⟩ := s_158 d hj hM hS hY hm hk hv h6 hsi
  have r1 := f1.rowS (q := 47) rfl
  refine ⟨ν1, ?_, f1, b1⟩
  have hN := tkn_le (k := k) (v := v) H h6 hsi
  have hNT : tkn k v h si H * T ≤ 48 := Nat.le_trans (Nat.mul_le_mul hN hT4) (by decide)
  have tkE := s_143 (d + 4) (ν := ν1) hj (hm.of r1) hk hv h6 (by rw [r1]; exact hH) hH2
  rw [← soW_0 ts T _ ht hs] at e1
  generalize tkn k v h si H = N at hN tkE hNT e1 ⊢
  have hMl := Mso_le hc hT4 st H N (soW ts T (H + N) ht hs 0)
  have hp2 := p2_le hNT
  have hT1 : gI ν1 47 0 = Int32.ofNat T := by rw [r1]; exact hT
  rw [e_160_0, r116, bnd_1, app1]
  refine (e_160_1 ..).trans ?_
  rw [bI_0, if_pos h1, e_160_2, r115, bnd_1, app1]
  refine (e_160_3 ..).trans ?_
  rw [bI_0, if_pos h2, e_160_4, s_113r, bnd_1, app1]
  refine (e_160_5 ..).trans ?_
  rw [bI_0, if_pos h4, e_160_7, e1, bnd_2, app1]
  refine (e_160_8 ..).trans ?_
  rw [tkE, bnd_1, app1]
  refine (e_160_9 ..).trans ?_
  rw [s_156 _ hT1 hNT, bnd_2, app1]
  refine (e_160_10 ..).trans ?_
  rw [J_nat, s_159 _ (jin_n (by omega)) hNT, bnd_2, app1]
  exact e_160_11 ..
theorem m160_no (d : Nat) {ν : MM} {A T st H W S : Nat} {ht hs : Int32} {cs : List Cl} (hQ : QX ν A T st H W S ht hs cs) (v1 v2 v4 : Int32) (h : ((okN S v1 && okN W v2) && rg 0 1 v4) = false) : ev (d + 2) 160 0 [.ref 46, .int v1, .int v2, .int v4] [] (fx ν) = some (some (.long (-9223372036854775808)), fx ν) := by
  obtain ⟨-, -, r116, r115, -⟩ := qR d hQ
  rw [e_160_0, r116, bnd_1, app1]
  refine (e_160_1 ..).trans ?_
  rw [bI_0]
  by_cases h1 : okN S v1 = true
  · rw [if_pos h1, e_160_2, r115, bnd_1, app1]
    refine (e_160_3 ..).trans ?_
    rw [bI_0]
    by_cases h2 : okN W v2 = true
    · rw [if_pos h2, e_160_4, s_113r, bnd_1, app1]
      refine (e_160_5 ..).trans ?_
      rw [h1, h2] at h
      have hp : rg 0 1 v4 = false := h
      rw [hp, bI_f, if_pos rfl, e_160_6]
    · rw [if_neg h2, e_160_6]
  · rw [if_neg h1, e_160_6]
theorem q_odds (d : Nat) {ν : MM} {A T st H W S : Nat} {ht hs : Int32} {cs : List Cl} (hQ : QX ν A T st H W S ht hs cs) (v1 v2 v4 : Int32) : QL (fun μ => ev (d + 6) 75 0 [.ref 28, .int v1, .int v2, .int v4] [] (fx μ)) (fun μ => ev (d + 6) 160 0 [.ref 46, .int v1, .int v2, .int v4] [] (fx μ)) ν := by
  by_cases c : ((okN S v1 && okN W v2) && rg 0 1 v4) = true
  · obtain ⟨c12, c4⟩ := Bool.and_eq_true_iff.mp c
    obtain ⟨c1, c2⟩ := Bool.and_eq_true_iff.mp c12
    obtain ⟨y, cc, ts, rfl, g1, hC, hY⟩ := hQ.2.2.2.2.2.at c1
    obtain ⟨j, r, k, v, h, co, si, rfl, hjW, hj, g2, hR, hm, -⟩ := hQ.2.2.2.2.1.at c2
    obtain ⟨ν1, e1, f1, gg⟩ := c85_ok d hQ (what := 0) c1 g1 hC hY.2.2 c2 g2 hR (by decide) c4
    have hb1 : b01 (gI ν1 50 0) = true := by rw [gg]; exact hQ.2.1.2.2.1
    have r47 := f1.rowS (q := 47) rfl
    have hR' := hR
    obtain ⟨-, -, hk, hv, h6, -, hsi, -⟩ := hR'
    obtain ⟨ν2, e2, f2, b2⟩ := m160 d (hQ.fr f1 hb1) c1 (hY.of r47) c2 hj (hm.of r47) hk hv h6 hsi c4
    refine ⟨_, ν1, ν2, ?_, e2, f1, f2, b2⟩
    show ev (d + 6) 75 0 [.ref 28, .int (Int32.ofNat y), .int (Int32.ofNat j), .int v4] [] (fx ν) = _
    rw [e_75_0]
    refine Eq.trans (congrArg (fun z => bnd 2 z _) e1) ?_
    rw [bnd_2, app1]
    exact e_75_1 ..
  · have c := Bool.eq_false_iff.mpr c
    have e1 := c85_no (d + 4) hQ v1 v2 0 v4 (by
      rw [show rg 0 2 0 = true from rfl, Bool.and_true]
      exact c)
    refine ⟨_, ν, ν, ?_, m160_no (d + 4) hQ v1 v2 v4 c, Fr.rf, Fr.rf, hQ.2.1.2.2.1⟩
    show ev (d + 6) 75 0 [.ref 28, .int v1, .int v2, .int v4] [] (fx ν) = _
    rw [e_75_0, e1, bnd_2, app1]
    exact e_75_1 ..
