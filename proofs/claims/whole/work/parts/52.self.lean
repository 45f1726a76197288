/-! self, odds -/
def QL (E1 E2 : MM → Rs) (ν : MM) : Prop := ∃ (x : Int64) (ν1 ν2 : MM), E1 ν = some (some (.long x), fx ν1) ∧ E2 ν1 = some (some (.long x), fx ν2) ∧ Fr PS QS ν ν1 ∧ Fr PS QS ν1 ν2 ∧ b01 (gI ν2 50 0) = true
def QI (E1 E2 : MM → Rs) (ν : MM) : Prop := ∃ (x : Int32) (ν1 ν2 : MM), E1 ν = some (some (.int x), fx ν1) ∧ E2 ν1 = some (some (.int x), fx ν2) ∧ Fr PS QS ν ν1 ∧ Fr PS QS ν1 ν2 ∧ b01 (gI ν2 50 0) = true
theorem qR {ν : MM} (d : Nat) {A T st H W S : Nat} {ht hs : Int32} {cs : List Cl} (hQ : QX ν A T st H W S ht hs cs) : (∀ v : Int32, ev d 50 0 [.ref 29, .int v] [] (fx ν) = some (some (rv (if okN S v = true then gR ν 32 v.toNatClampNeg else none)), fx ν)) ∧ (∀ v : Int32, ev d 51 0 [.ref 29, .int v] [] (fx ν) = some (some (rv (if okN W v = true then gR ν 33 v.toNatClampNeg else none)), fx ν)) ∧ (∀ v : Int32, ev (d + 1) 116 0 [.ref 46, .int v] [] (fx ν) = some (some (.int (bI (okN S v))), fx ν)) ∧ (∀ v : Int32, ev (d + 1) 115 0 [.ref 46, .int v] [] (fx ν) = some (some (.int (bI (okN W v))), fx ν)) ∧ (∀ v : Int32, ev d 49 0 [.ref 29, .int v] [] (fx ν) = some (some (.int (bI (okN T v))), fx ν)) ∧ ∀ v : Int32, ev (d + 1) 114 0 [.ref 46, .int v] [] (fx ν) = some (some (.int (bI (okN T v))), fx ν) := by
  obtain ⟨hO, hM, -, -, hW, hY⟩ := hQ
  exact ⟨fun v => s_50 d hY.1 hY.2.2.1 v, fun v => s_51 d hW.1 hW.2.2.1 v, fun v => s_116 d hY.2.1 hY.2.2.1 v, fun v => s_115 d hW.2.1 hW.2.2.1 v, fun v => s_49 d hO.2.2.2.1 v, fun v => s_114 d hM.2.2.2.2.2.1 (by have := hM.2.2.2.2.2.2; omega) v⟩
/-- class: a refusal -/
theorem c85_no (d : Nat) {ν : MM} {A T st H W S : Nat} {ht hs : Int32} {cs : List Cl} (hQ : QX ν A T st H W S ht hs cs) (v1 v2 v3 v4 : Int32) (h : (((okN S v1 && okN W v2) && rg 0 2 v3) && rg 0 1 v4) = false) : ev (d + 1) 85 0 [.ref 28, .int v1, .int v2, .int v3, .int v4] [] (fx ν) = some (some (.long (-9223372036854775808)), fx ν) := by
  obtain ⟨r50, r51, -⟩ := qR d hQ
  rw [e_85_0, r50, bnd_3, app1]
  refine (e_85_1 ..).trans ?_
  by_cases h1 : okN S v1 = true
  · obtain ⟨k, c, ts, -, g1, -⟩ := hQ.2.2.2.2.2.at h1
    rw [if_pos h1, g1, asN_s, r51, bnd_3, app1]
    refine (e_85_2a ..).trans ?_
    by_cases h2 : okN W v2 = true
    · obtain ⟨j, r, _, _, _, _, _, -, -, -, g2, -⟩ := hQ.2.2.2.2.1.at h2
      rw [if_pos h2, g2, asN_s, e_85_3a, e_85_4, e_85_8, e_85_5, e_85_8]
      by_cases c1 : v3 < 0
      · rw [if_pos c1]
      · rw [if_neg c1]
        by_cases c2 : 2 < v3
        · rw [if_pos c2]
        · rw [if_neg c2, e_85_6, s_106, bnd_1, app1]
          refine (e_85_7 ..).trans ?_
          have hr : rg 0 2 v3 = true := by unfold rg; rw [decide_eq_false c1, decide_eq_false c2]; rfl
          rw [h1, h2, hr] at h
          have hp : rg 0 1 v4 = false := h
          rw [hp, bI_f, if_pos rfl, e_85_8]
    · rw [if_neg h2, asN_n, e_85_3, e_85_8]
  · rw [if_neg h1, asN_n, r51, bnd_3, app1]
    refine (e_85_2 ..).trans ?_
    rw [asN_c, e_85_8]
theorem c85_ok (d : Nat) {ν : MM} {A T st H W S : Nat} {ht hs : Int32} {cs : List Cl} (hQ : QX ν A T st H W S ht hs cs) {c r k v h co si what : Nat} {ts : List Int32} {v1 v2 v4 : Int32} (h1 : okN S v1 = true) (g1 : gR ν 32 v1.toNatClampNeg = some c) (hC : ClA ν c (3, 0, ts)) (hts : okTs 5 ts) (h2 : okN W v2 = true) (g2 : gR ν 33 v2.toNatClampNeg = some r) (hR : RnV ν r k v h co si) (hw : what < 3) (h4 : rg 0 1 v4 = true) : ∃ ν1, ev (d + 5) 85 0 [.ref 28, .int v1, .int v2, .int (Int32.ofNat what), .int v4] [] (fx ν) = some (some (.long (lwR (Mso cs T st H (tkn k v h si H) (soW ts T (H + tkn k v h si H) ht hs what)) (tkn k v h si H * T) v4)), fx ν1) ∧ Fr PS QS ν ν1 ∧ gI ν1 = gI ν := by
  obtain ⟨r50, r51, -⟩ := qR (d + 4) hQ
  obtain ⟨ν1, e1, f1, g⟩ := s_87 d (cl := (3, 0, ts)) (c := c) (what := what) hts hw hQ.1 hC hR
  refine ⟨ν1, ?_, f1, g⟩
  obtain ⟨-, -, hc, -, hT4, -⟩ := hQ.1
  obtain ⟨-, -, hk, hv, h6, -, hsi, -⟩ := hR
  have hN := tkn_le (k := k) (v := v) H h6 hsi
  generalize hNe : tkn k v h si H = N at hN e1 ⊢
  have hNT : N * T ≤ 48 := Nat.le_trans (Nat.mul_le_mul hN hT4) (by decide)
  have hMl := Mso_le hc hT4 st H N (soW ts T (H + N) ht hs what)
  have hb : Mso cs T st H N (soW ts T (H + N) ht hs what) * 2 ^ (48 - N * T) ≤ 281474976710656 := by
    have := Nat.mul_le_mul_right (2 ^ (48 - N * T)) hMl
    rw [← Nat.pow_add, show N * T + (48 - N * T) = 48 by omega] at this
    exact this
  have e94 := s_94 (d + 4) (ν := ν1) (z := Mso cs T st H N (soW ts T (H + N) ht hs what)) hNT (by rw [← Int.natCast_mul]; exact jin_n (by omega)) v4
  rw [← Int.natCast_mul, ← J_nat] at e94
  rw [Cso_eq cs hT4 hN] at e1
  have n3 : ¬ Int32.ofNat what < 0 ∧ ¬ 2 < Int32.ofNat what := by
    have q : ∀ w, w < 3 → ¬ Int32.ofNat w < 0 ∧ ¬ 2 < Int32.ofNat w := by decide
    exact q what hw
  rw [e_85_0, r50, bnd_3, app1]
  refine (e_85_1 ..).trans ?_
  rw [if_pos h1, g1, asN_s, r51, bnd_3, app1]
  refine (e_85_2a ..).trans ?_
  rw [if_pos h2, g2, asN_s, e_85_3a, e_85_4, if_neg n3.1, e_85_5, if_neg n3.2, e_85_6, s_106, bnd_1, app1]
  refine (e_85_7 ..).trans ?_
  rw [h4, bI_t, if_neg (by decide), e_85_9, e1, bnd_2, app1]
  refine (e_85_10 ..).trans ?_
  rw [e94, bnd_2, app1]
  exact e_85_11 ..
/-- the model's loop -/
theorem l_178 (d : Nat) {T st H N k what : Nat} {cs : List Cl} {ts : List Int32} {ht hs : Int32} (hN : N ≤ 12) (hw3 : what < 3) {w : Nat → Nat → Nat} (hww : ∀ t, t < T → w t = owt cs st H N t) (v4 : Int32) : ∀ (m r : Nat) (ν : MM), r + m = 4 ^ T → MO ν T H cs → MY ν k ts → gI ν 47 8 = ht → gI ν 47 9 = hs → WM ν w → ∃ ν', ev (d + 3) 178 14 [.ref 46, .int (Int32.ofNat k), .int (Int32.ofNat what), .int v4, .int (Int32.ofNat N), .long (Int64.ofNat (sso r (soW ts T (H + N) ht hs what) (prw (owt cs st H N) T))), .int (Int32.ofNat r)] [] (fx ν) = ev (d + 3) 178 33 [.ref 46, .int v4, .int (Int32.ofNat N), .long (Int64.ofNat (Mso cs T st H N (soW ts T (H + N) ht hs what)))] [] (fx ν') ∧ Fr PS QS ν ν' ∧ b01 (gI ν' 50 0) = true
  | 0, r, ν, hr, hM, hY, h8, h9, hw => by
    have hM' := hM
    obtain ⟨-, -, hb, -, -, hT, hT4⟩ := hM'
    have h256 := p4_le hT4
    refine ⟨ν, ?_, Fr.rf, hb⟩
    rw [e_178_14, s_154 _ hT hT4, bnd_1, app1]
    refine (e_178_15 ..).trans ?_
    rw [if_pos (by rw [O_le (by omega) (by omega)]; omega), show r = 4 ^ T by omega]
    rfl
  | m + 1, r, ν, hr, hM, hY, h8, h9, hw => by
    have hM' := hM
    obtain ⟨-, hc, hb, hH, hH2, hT, hT4⟩ := hM'
    have h256 := p4_le hT4
    obtain ⟨n1, n0⟩ := wh_num what hw3
    generalize hx : Int64.ofNat (sso r (soW ts T (H + N) ht hs what) (prw (owt cs st H N) T)) = x
    -- ahead
    have ahead : ∃ (ν1 : MM), ev (d + 3) 178 16 [.ref 46, .int (Int32.ofNat k), .int (Int32.ofNat what), .int v4, .int (Int32.ofNat N), .long x, .int (Int32.ofNat r)] [] (fx ν) = ev (d + 3) 178 21 [.ref 46, .int (Int32.ofNat k), .int (Int32.ofNat what), .int v4, .int (Int32.ofNat N), .long x, .int (Int32.ofNat r)] [.int (bI (decide (what = 1) || sayT ts T (H + N) (Int32.ofNat r)))] (fx ν1) ∧ Fr Pl Q0 ν ν1 ∧ MO ν1 T H cs ∧ MY ν1 k ts := by
      by_cases c1 : what = 1
      · exact ⟨ν, by rw [e_178_16, if_pos (by rw [n1]; exact c1), e_178_19, decide_eq_true c1]; rfl, Fr.rf, hM, hY⟩
      · obtain ⟨ν1, e1, f1, m1, y1⟩ := say_m d hM hY (Int32.ofNat r) (h := H + N) (by omega)
        refine ⟨ν1, ?_, f1, m1, y1⟩
        rw [e_178_16, if_neg (by rw [n1]; exact c1), e_178_17, hH, O_add, e1, bnd_1, app1]
        refine (e_178_18 ..).trans ?_
        rw [bI_0, decide_eq_false c1, Bool.false_or, e_178_19, e_178_20]
        cases sayT ts T (H + N) (Int32.ofNat r) <;> rfl
    obtain ⟨ν1, e1, f1, hM1, hY1⟩ := ahead
    have r1 := f1.rowl (q := 47) rfl rfl rfl
    have behind : ∀ b : Bool, ∃ (ν2 : MM), ev (d + 3) 178 21 [.ref 46, .int (Int32.ofNat k), .int (Int32.ofNat what), .int v4, .int (Int32.ofNat N), .long x, .int (Int32.ofNat r)] [.int (bI b)] (fx ν1) = ev (d + 3) 178 27 [.ref 46, .int (Int32.ofNat k), .int (Int32.ofNat what), .int v4, .int (Int32.ofNat N), .long x, .int (Int32.ofNat r), .int (bI b)] [.int (bI (decide (what = 0) || sayT ts T (H + N) (hdI ht hs (Int32.ofNat r))))] (fx ν2) ∧ Fr Pl Q0 ν1 ν2 ∧ MO ν2 T H cs ∧ MY ν2 k ts := by
      intro b
      by_cases c0 : what = 0
      · exact ⟨ν1, by rw [e_178_21, if_pos (by rw [n0]; exact c0), e_178_25, decide_eq_true c0]; rfl, Fr.rf, hM1, hY1⟩
      · obtain ⟨ν2, e2, f2, m2, y2⟩ := say_m d hM1 hY1 (hdI ht hs (Int32.ofNat r)) (h := H + N) (by omega)
        refine ⟨ν2, ?_, f2, m2, y2⟩
        have hH1 := hM1.2.2.2.1
        rw [e_178_21, if_neg (by rw [n0]; exact c0), e_178_22, s_177 _ (t := ht) (s := hs) (by rw [r1]; exact h8) (by rw [r1]; exact h9), bnd_1, app1]
        refine (e_178_23 ..).trans ?_
        rw [hH1, O_add, e2, bnd_1, app1]
        refine (e_178_24 ..).trans ?_
        rw [bI_0, decide_eq_false c0, Bool.false_or, e_178_25, e_178_26]
        cases sayT ts T (H + N) (hdI ht hs (Int32.ofNat r)) <;> rfl
    obtain ⟨ν2, e2, f2, hM2, hY2⟩ := behind (decide (what = 1) || sayT ts T (H + N) (Int32.ofNat r))
    have r2 := f2.rowl (q := 47) rfl rfl rfl
    have hw2 := (hw.fr f1).fr f2
    have hT2 := hM2.2.2.2.2.2.1
    obtain ⟨ν', e, f, b⟩ := l_178 d (ht := ht) (hs := hs) hN hw3 hww v4 m (r + 1) ν2 (by omega) hM2 hY2 (by rw [r2, r1]; exact h8) (by rw [r2, r1]; exact h9) hw2
    refine ⟨ν', ?_, f1.s.tr (f2.s.tr f), b⟩
    have hp : prw w T r = prw (owt cs st H N) T r := prw_congr fun t ht => by rw [hww t ht]
    rw [e_178_14, s_154 _ hT hT4, bnd_1, app1]
    refine (e_178_15 ..).trans ?_
    rw [if_neg (by rw [O_le (by omega) (by omega)]; omega), e1, e2, e_178_27, bI_0]
    rw [sso_succ] at e
    have no : ev (d + 3) 178 31 [.ref 46, .int (Int32.ofNat k), .int (Int32.ofNat what), .int v4, .int (Int32.ofNat N), .int (Int32.ofNat r)] [.long x] (fx ν2) = ev (d + 3) 178 14 [.ref 46, .int (Int32.ofNat k), .int (Int32.ofNat what), .int v4, .int (Int32.ofNat N), .long x, .int (Int32.ofNat (r + 1))] [] (fx ν2) := by
      rw [e_178_31, e_178_32, O_succ, Int64.add_zero]
    have soE : soW ts T (H + N) ht hs what r = ((decide (what = 1) || sayT ts T (H + N) (Int32.ofNat r)) && (decide (what = 0) || sayT ts T (H + N) (hdI ht hs (Int32.ofNat r)))) := rfl
    by_cases ca : (decide (what = 1) || sayT ts T (H + N) (Int32.ofNat r)) = true
    · rw [if_pos ca, e_178_28, bI_0]
      by_cases cb : (decide (what = 0) || sayT ts T (H + N) (hdI ht hs (Int32.ofNat r))) = true
      · rw [if_pos (show soW ts T (H + N) ht hs what r = true by rw [soE, ca, cb]; rfl), ← L_add, hx] at e
        rw [if_pos cb, e_178_29, s_153 _ hT2 hT4 hw2 (by omega), bnd_2, app1, hp]
        refine (e_178_30 ..).trans ?_
        rw [e_178_32, O_succ]
        exact e
      · rw [if_neg (show ¬ soW ts T (H + N) ht hs what r = true by rw [soE, ca, Bool.true_and]; exact cb), Nat.add_zero (sso r (soW ts T (H + N) ht hs what) (prw (owt cs st H N) T)), hx] at e
        rw [if_neg cb, no]
        exact e
    · rw [if_neg (show ¬ soW ts T (H + N) ht hs what r = true by rw [soE, Bool.eq_false_iff.mpr ca, Bool.false_and]; decide), Nat.add_zero (sso r (soW ts T (H + N) ht hs what) (prw (owt cs st H N) T)), hx] at e
      rw [if_neg ca, no]
      exact e
