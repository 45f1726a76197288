/-! of, at, as, trace, count, now -/
theorem q_of (d : Nat) {ν : MM} {A T st H W S : Nat} {ht hs : Int32} {cs : List Cl} (hQ : QX ν A T st H W S ht hs cs) (v1 v2 : Int32) : QI (fun μ => ev (d + 4) 68 0 [.ref 28, .int v1, .int v2] [] (fx μ)) (fun μ => ev (d + 4) 140 0 [.ref 46, .int v1, .int v2] [] (fx μ)) ν := by
  obtain ⟨-, -, -, -, r49, -⟩ := qR (d + 3) hQ
  obtain ⟨-, -, -, -, -, r114⟩ := qR (d + 2) hQ
  have hb := hQ.2.1.2.2.1
  obtain ⟨hA, hCo, hc, hT, hT4, hS, hs4, hHc, hH2, -⟩ := hQ.1
  obtain ⟨hMC, -, -, hH, -⟩ := hQ.2.1
  by_cases c1 : okN T v1 = true
  case neg =>
    refine ⟨-1, ν, ν, ?_, ?_, Fr.rf, Fr.rf, hb⟩
    · show ev (d + 4) 68 0 [.ref 28, .int v1, .int v2] [] (fx ν) = _
      rw [e_68_0, r49, bnd_1, app1]
      refine (e_68_1 ..).trans ?_
      rw [bI_0, if_neg c1, e_68_2]
    · show ev (d + 4) 140 0 [.ref 46, .int v1, .int v2] [] (fx ν) = _
      rw [e_140_0, r114, bnd_1, app1]
      refine (e_140_1 ..).trans ?_
      rw [bI_0, if_neg c1, e_140_4]
  obtain ⟨t, htT, et⟩ := okN_t (by omega) c1
  have h256 := p4_le hT4
  have cl0 : ev (d + 4) 68 0 [.ref 28, .int v1, .int v2] [] (fx ν) = if v2 = 0 then some (some (.int (Int32.ofNat (stD st t))), fx ν) else if v2 = 1 then some (some (.int (tgT cs t (stD st t) H 0)), fx ν) else if v2 = 2 then some (some (.int (tgT cs t (stD st t) H 1)), fx ν) else some (some (.int (-1)), fx ν) := by
    rw [e_68_0, r49, bnd_1, app1]
    refine (e_68_1 ..).trans ?_
    rw [bI_0, if_pos c1, e_68_3, hS, s_107, bnd_1, app1, et, stI_n st (by omega) t (by omega)]
    refine (e_68_4 ..).trans ?_
    rw [hHc, s_110 (d + 3) (t := t) (s := stD st t) (h := H) (by omega), bnd_1, app1]
    refine (e_68_5 ..).trans ?_
    rw [e_68_6, e_68_7, e_68_9, e_68_11, s_57 (d + 1) _ _ hA hCo, s_57 (d + 1) _ _ hA hCo, bnd_1, bnd_1, app1, app1, tog_T hc.2.2 (by omega) (stD_lt st t), tog_T hc.2.2 (by omega) (stD_lt st t)]
    by_cases c0 : v2 = 0
    · rw [if_pos c0, if_pos c0]
    · rw [if_neg c0, if_neg c0]
      by_cases c1 : v2 = 1
      · rw [if_pos c1, if_pos c1]
        exact e_68_8 ..
      · rw [if_neg c1, if_neg c1]
        by_cases c2 : v2 = 2
        · rw [if_pos c2, if_pos c2]
          exact e_68_10 ..
        · rw [if_neg c2, if_neg c2]
  by_cases c2 : rg 0 2 v2 = true
  case neg =>
    have n0 : ¬ v2 = 0 := fun e => c2 (by rw [e]; rfl)
    have n1 : ¬ v2 = 1 := fun e => c2 (by rw [e]; rfl)
    have n2 : ¬ v2 = 2 := fun e => c2 (by rw [e]; rfl)
    rw [if_neg n0, if_neg n1, if_neg n2] at cl0
    refine ⟨-1, ν, ν, cl0, ?_, Fr.rf, Fr.rf, hb⟩
    show ev (d + 4) 140 0 [.ref 46, .int v1, .int v2] [] (fx ν) = _
    rw [e_140_0, r114, bnd_1, app1]
    refine (e_140_1 ..).trans ?_
    rw [bI_0, if_pos c1, e_140_2, s_113r, bnd_1, app1]
    refine (e_140_3 ..).trans ?_
    rw [bI_0, if_neg c2, e_140_4]
  obtain ⟨ν1, e1, f1, g0, g1, -, b1⟩ := s_135 (d + 1) (ν := ν) (Int32.ofNat t) (Int32.ofNat (stD st t)) (Int32.ofNat H) 9 hMC hc.2.2 hb
  rw [O_rem12 (by omega)] at g0 g1
  have r47 := f1.rowl (q := 47) rfl rfl rfl
  have hst := hQ.2.2.1.2 t htT
  have md0 : ev (d + 4) 140 0 [.ref 46, .int v1, .int v2] [] (fx ν) = ev (d + 4) 140 6 [.ref 46, .int (Int32.ofNat t), .int v2] [] (fx ν1) := by
    rw [e_140_0, r114, bnd_1, app1]
    refine (e_140_1 ..).trans ?_
    rw [bI_0, if_pos c1, e_140_2, s_113r, bnd_1, app1]
    refine (e_140_3 ..).trans ?_
    rw [bI_0, if_pos c2, e_140_5, et, ten_num t (by omega), inb_O (by omega) (by omega), gd_t, tn_O (by omega), hst, hH, e1, bnd_0, app0]
  obtain ⟨n, hn, en⟩ := rg_n (hi := 2) (by decide) c2
  have hn3 : n = 0 ∨ n = 1 ∨ n = 2 := by omega
  rcases hn3 with rfl | rfl | rfl
  · have en : v2 = 0 := en
    rw [if_pos en] at cl0
    refine ⟨_, ν, ν1, cl0, md0.trans ?_, Fr.rf, f1.s, b1⟩
    rw [e_140_6, if_pos en, e_140_7, ten_num t (by omega), inb_O (by omega) (by omega), gd_t, tn_O (by omega), r47, hst, e_140_11]
  · have en : v2 = 1 := en
    rw [if_neg (by rw [en]; decide), if_pos en] at cl0
    refine ⟨_, ν, ν1, cl0, md0.trans ?_, Fr.rf, f1.s, b1⟩
    rw [e_140_6, if_neg (by rw [en]; decide), e_140_8, if_pos en, e_140_9, e_140_11, g0]
    rfl
  · have en : v2 = 2 := en
    rw [if_neg (by rw [en]; decide), if_neg (by rw [en]; decide), if_pos en] at cl0
    refine ⟨_, ν, ν1, cl0, md0.trans ?_, Fr.rf, f1.s, b1⟩
    rw [e_140_6, if_neg (by rw [en]; decide), e_140_8, if_neg (by rw [en]; decide), e_140_10, e_140_11, g1]
    rfl
/-- a call of hoursSat -/
theorem hs_any (d : Nat) {ν : MM} {r k v hs co si : Nat} (H : RnV ν r k v hs co si) (K : List Value → MM → Rs) : (match Nat.beq (shp (fx ν) r) 0 with
  | true => bnd 1 (ev d 34 0 [] [] (fx ν)) K
  | false => (match Nat.beq (shp (fx ν) r) 1 with
    | true => bnd 1 (ev d 34 0 [] [] (fx ν)) K
    | false => (match Nat.beq (shp (fx ν) r) 2 with
      | true => bnd 1 (ev d 8 0 [.ref r] [] (fx ν)) K
      | false => (match Nat.beq (shp (fx ν) r) 4 with
        | true => bnd 1 (ev d 34 0 [] [] (fx ν)) K
        | false => (match Nat.beq (shp (fx ν) r) 6 with
          | true => bnd 1 (ev d 34 0 [] [] (fx ν)) K
          | false => (match Nat.beq (shp (fx ν) r) 7 with
            | true => bnd 1 (ev d 34 0 [] [] (fx ν)) K
            | false => (match Nat.beq (shp (fx ν) r) 8 with
              | true => bnd 1 (ev d 34 0 [] [] (fx ν)) K
              | false => (none : Rs)))))))) = K [.int (Int32.ofNat si)] (fx ν) := by
  obtain ⟨-, h1, hk, -, -, -, -, -, -, -, -, h6, h0, -⟩ := H
  have e34 : bnd 1 (ev d 34 0 [] [] (fx ν)) K = K [.int 0] (fx ν) := by rw [e_34_0, bnd_1]
  have hk7 : k = 0 ∨ k = 1 ∨ k = 2 ∨ k = 3 ∨ k = 4 ∨ k = 5 ∨ k = 6 := by omega
  rcases hk7 with c | c | c | c | c | c | c
  · rw [h0 (by omega), h1, c]; exact e34
  · rw [h0 (by omega), h1, c]; exact e34
  · rw [h0 (by omega), h1, c]; exact e34
  · rw [h0 (by omega), h1, c]; exact e34
  · rw [h0 (by omega), h1, c]; exact e34
  · rw [h0 (by omega), h1, c]; exact e34
  · have e8 : bnd 1 (ev d 8 0 [.ref r] [] (fx ν)) K = K [.int (Int32.ofNat si)] (fx ν) := by
      rw [e_8_0, h1, c, h6 c]
      rfl
    rw [h1, c]
    exact e8
theorem q_at (d : Nat) {ν : MM} {A T st H W S : Nat} {ht hs : Int32} {cs : List Cl} (hQ : QX ν A T st H W S ht hs cs) (v1 v2 : Int32) : QI (fun μ => ev (d + 4) 71 0 [.ref 28, .int v1, .int v2] [] (fx μ)) (fun μ => ev (d + 4) 145 0 [.ref 46, .int v1, .int v2] [] (fx μ)) ν := by
  obtain ⟨-, r51, -⟩ := qR (d + 3) hQ
  obtain ⟨-, -, -, r115, -⟩ := qR (d + 2) hQ
  have hb := hQ.2.1.2.2.1
  by_cases c1 : okN W v1 = true
  case neg =>
    refine ⟨-1, ν, ν, ?_, ?_, Fr.rf, Fr.rf, hb⟩
    · show ev (d + 4) 71 0 [.ref 28, .int v1, .int v2] [] (fx ν) = _
      rw [e_71_0, r51, bnd_3, app1, if_neg c1]
      refine (e_71_1 ..).trans ?_
      rw [asN_n, e_71_2]
    · show ev (d + 4) 145 0 [.ref 46, .int v1, .int v2] [] (fx ν) = _
      rw [e_145_0, r115, bnd_1, app1]
      refine (e_145_1 ..).trans ?_
      rw [bI_0, if_neg c1, e_145_4]
  obtain ⟨j, r, k, v, h, co, si, ej, hjW, hj, g1, hR, hm, -⟩ := hQ.2.2.2.2.1.at c1
  have cl0 : ev (d + 4) 71 0 [.ref 28, .int v1, .int v2] [] (fx ν) = ev (d + 4) 71 3 [.ref 28, .int v2, .ref r] [] (fx ν) := by
    rw [e_71_0, r51, bnd_3, app1, if_pos c1, g1]
    refine (e_71_1 ..).trans ?_
    rw [asN_s]
  have md0 : ev (d + 4) 145 0 [.ref 46, .int v1, .int v2] [] (fx ν) = if rg 0 6 v2 = true then ev (d + 4) 145 5 [.ref 46, .int (Int32.ofNat j), .int v2] [] (fx ν) else some (some (.int (-1)), fx ν) := by
    rw [e_145_0, r115, bnd_1, app1]
    refine (e_145_1 ..).trans ?_
    rw [bI_0, if_pos c1, e_145_2, s_113r, bnd_1, app1]
    refine (e_145_3 ..).trans ?_
    rw [bI_0, e_145_4, ej]
  by_cases c2 : rg 0 6 v2 = true
  case neg =>
    rw [if_neg c2] at md0
    have ne : ∀ n, n ≤ 6 → ¬ v2 = Int32.ofNat n := by
      intro n hn e
      have q : ∀ n, n ≤ 6 → rg 0 6 (Int32.ofNat n) = true := by decide
      exact c2 (by rw [e]; exact q n hn)
    refine ⟨_, ν, ν, cl0.trans ?_, md0, Fr.rf, Fr.rf, hb⟩
    rw [e_71_3, if_neg (show ¬ v2 = 0 from ne 0 (by decide)), if_neg (show ¬ v2 = 1 from ne 1 (by decide)), if_neg (show ¬ v2 = 2 from ne 2 (by decide)), if_neg (show ¬ v2 = 3 from ne 3 (by decide)), if_neg (show ¬ v2 = 4 from ne 4 (by decide)), if_neg (show ¬ v2 = 5 from ne 5 (by decide)), if_neg (show ¬ v2 = 6 from ne 6 (by decide)), e_71_14]
  rw [if_pos c2] at md0
  obtain ⟨hA, hCo, hc, hT, hT4, hS, hs4, hHc, hH2, -⟩ := hQ.1
  obtain ⟨hMC, -, -, hH, -⟩ := hQ.2.1
  have hR' := hR
  obtain ⟨-, hshp, x1, x2, x3, x4, x5, y0, y2, y3, y4, -⟩ := hR'
  have hm' := hm
  obtain ⟨m1, m2, m3, m4, m5⟩ := hm'
  have cin7 := clsK_in x1
  rw [← hshp] at cin7
  have nn : ∀ n, n < 4 → ∀ j, j < 5 → ((14 : Int32) + (5 : Int32) * Int32.ofNat n) + Int32.ofNat j = Int32.ofNat (14 + 5 * n + j) := by decide
  obtain ⟨n, hn, en⟩ := rg_n (hi := 6) (by decide) c2
  have hn7 : n = 0 ∨ n = 1 ∨ n = 2 ∨ n = 3 ∨ n = 4 ∨ n = 5 ∨ n = 6 := by omega
  have lo : ∀ n, n < 4 → v2 = Int32.ofNat n → ev (d + 4) 145 5 [.ref 46, .int (Int32.ofNat j), .int v2] [] (fx ν) = some (some (.int (gI ν 47 (14 + 5 * n + j))), fx ν) := by
    intro n hn e
    have q : ∀ n, n < 4 → ¬ (4 : Int32) ≤ Int32.ofNat n := by decide
    rw [e, e_145_5, if_neg (q n hn), e_145_6, nn n hn j hj, inb_O (by omega) (by omega), gd_t, tn_O (by omega)]
  rcases hn7 with rfl | rfl | rfl | rfl | rfl | rfl | rfl
  · have en : v2 = 0 := en
    refine ⟨Int32.ofNat k, ν, ν, cl0.trans ?_, md0.trans ?_, Fr.rf, Fr.rf, hb⟩
    · rw [e_71_3, if_pos en, e_71_4, cin7, gd_t, y0]
    · rw [lo 0 (by decide) en]
      show some (some (Value.int (gI ν 47 (14 + j))), fx ν) = _
      rw [m1]
  · have en : v2 = 1 := en
    refine ⟨Int32.ofNat v, ν, ν, cl0.trans ?_, md0.trans ?_, Fr.rf, Fr.rf, hb⟩
    · rw [e_71_3, if_neg (by rw [en]; decide), if_pos en, e_71_5, cin7, gd_t, y2]
    · rw [lo 1 (by decide) en]
      show some (some (Value.int (gI ν 47 (19 + j))), fx ν) = _
      rw [m2]
  · have en : v2 = 2 := en
    refine ⟨Int32.ofNat h, ν, ν, cl0.trans ?_, md0.trans ?_, Fr.rf, Fr.rf, hb⟩
    · rw [e_71_3, if_neg (by rw [en]; decide), if_neg (by rw [en]; decide), if_pos en, e_71_6, cin7, gd_t, y3]
    · rw [lo 2 (by decide) en]
      show some (some (Value.int (gI ν 47 (24 + j))), fx ν) = _
      rw [m3]
  · have en : v2 = 3 := en
    refine ⟨Int32.ofNat co, ν, ν, cl0.trans ?_, md0.trans ?_, Fr.rf, Fr.rf, hb⟩
    · rw [e_71_3, if_neg (by rw [en]; decide), if_neg (by rw [en]; decide), if_neg (by rw [en]; decide), if_pos en, e_71_7, cin7, gd_t, y4]
    · rw [lo 3 (by decide) en]
      show some (some (Value.int (gI ν 47 (29 + j))), fx ν) = _
      rw [m4]
  · have en : v2 = 4 := en
    refine ⟨Int32.ofNat (tkn k v h si H), ν, ν, cl0.trans ?_, md0.trans ?_, Fr.rf, Fr.rf, hb⟩
    · rw [e_71_3, if_neg (by rw [en]; decide), if_neg (by rw [en]; decide), if_neg (by rw [en]; decide), if_neg (by rw [en]; decide), if_pos en, e_71_8]
      refine (hf_any (d + 2) hR hHc (by omega) _).trans ?_
      exact e_71_9 ..
    · rw [e_145_5, if_pos (by rw [en]; decide), e_145_7, if_pos en, e_145_8, s_143 (d + 2) hj hm x1 x2 x3 hH hH2, bnd_1, app1]
      refine (e_145_9 ..).trans ?_
      exact e_145_14 ..
  · have en : v2 = 5 := en
    obtain ⟨ν', e2, f2, b2⟩ := s_144 d hj hMC hc.2.2 hb hH (by omega) x1 hm
    refine ⟨cst k v co cs H, ν, ν', cl0.trans ?_, md0.trans ?_, Fr.rf, f2.s, b2⟩
    · rw [e_71_3, if_neg (by rw [en]; decide), if_neg (by rw [en]; decide), if_neg (by rw [en]; decide), if_neg (by rw [en]; decide), if_neg (by rw [en]; decide), if_pos en, e_71_10, s_56 d hA hCo hc.2.2 hHc (by omega) hR, bnd_1, app1]
      exact e_71_11 ..
    · rw [e_145_5, if_pos (by rw [en]; decide), e_145_7, if_neg (by rw [en]; decide), e_145_10, if_pos en, e_145_11, e2, bnd_1, app1]
      refine (e_145_12 ..).trans ?_
      exact e_145_14 ..
  · have en : v2 = 6 := en
    refine ⟨Int32.ofNat si, ν, ν, cl0.trans ?_, md0.trans ?_, Fr.rf, Fr.rf, hb⟩
    · rw [e_71_3, if_neg (by rw [en]; decide), if_neg (by rw [en]; decide), if_neg (by rw [en]; decide), if_neg (by rw [en]; decide), if_neg (by rw [en]; decide), if_neg (by rw [en]; decide), if_pos en, e_71_12]
      refine (hs_any (d + 3) hR _).trans ?_
      exact e_71_13 ..
    · obtain ⟨-, -, -, n34, -⟩ := w_num j hj
      rw [e_145_5, if_pos (by rw [en]; decide), e_145_7, if_neg (by rw [en]; decide), e_145_10, if_neg (by rw [en]; decide), e_145_13, n34, inb_O (by omega) (by omega), gd_t, tn_O (by omega), m5]
      exact e_145_14 ..
/-! as -/
def unI (kd k : Nat) : Bool := decide (k = 0) || (decide (k = kd) || (decide (0 < k) && (decide (k < 4) && decide (kd = k + 3))))
theorem s_100 (d : Nat) {ν : MM} {r kd k : Nat} (hk : k < 7) (hkd : kd < 7) (hs : shp (fx ν) r = clsK kd) : ev d 100 0 [.ref r, .int (Int32.ofNat k)] [] (fx ν) = some (some (.int (bI (unI kd k))), fx ν) := by
  have fin : ∀ (l1 l2 : List Nat), (∀ kd, kd < 7 → cin l1 (clsK kd) = true ∧ cin l2 (clsK kd) = unI kd k) → gd (cin l1 (shp (fx ν) r)) (match cin l2 (shp (fx ν) r) with | true => some (some (Value.int 1), fx ν) | false => some (some (Value.int 0), fx ν)) = some (some (.int (bI (unI kd k))), fx ν) := by
    intro l1 l2 h
    obtain ⟨a, b⟩ := h kd hkd
    rw [hs, a, b, gd_t]
    cases unI kd k <;> rfl
  have hk7 : k = 0 ∨ k = 1 ∨ k = 2 ∨ k = 3 ∨ k = 4 ∨ k = 5 ∨ k = 6 := by omega
  rw [e_100_0]
  rcases hk7 with rfl | rfl | rfl | rfl | rfl | rfl | rfl
  · rw [if_neg (by decide), if_neg (by decide), if_neg (by decide), if_neg (by decide), if_neg (by decide), if_neg (by decide), e_100_7]
    rfl
  · rw [if_pos (by decide), e_100_1]
    exact fin _ _ (by decide)
  · rw [if_neg (by decide), if_pos (by decide), e_100_2]
    exact fin _ _ (by decide)
  · rw [if_neg (by decide), if_neg (by decide), if_pos (by decide), e_100_3]
    exact fin _ _ (by decide)
  · rw [if_neg (by decide), if_neg (by decide), if_neg (by decide), if_pos (by decide), e_100_4]
    exact fin _ _ (by decide)
  · rw [if_neg (by decide), if_neg (by decide), if_neg (by decide), if_neg (by decide), if_pos (by decide), e_100_5]
    exact fin _ _ (by decide)
  · rw [if_neg (by decide), if_neg (by decide), if_neg (by decide), if_neg (by decide), if_neg (by decide), if_pos (by decide), e_100_6]
    exact fin _ _ (by decide)
theorem s_183 (d : Nat) {kd k : Nat} (hk : k < 7) (hkd : kd < 7) (ν : MM) : ev d 183 0 [.int (Int32.ofNat kd), .int (Int32.ofNat k)] [] (fx ν) = some (some (.int (bI (unI kd k))), fx ν) := by
  have q : ∀ k, k < 7 → ∀ kd, kd < 7 → ∀ {α : Type} (a b : α), (if Int32.ofNat k = 0 then a else if Int32.ofNat k = Int32.ofNat kd then a else if Int32.ofNat k ≤ 0 then b else if (4 : Int32) ≤ Int32.ofNat k then b else if Int32.ofNat kd = Int32.ofNat k + 3 then a else b) = if unI kd k = true then a else b := by
    intro k hk kd hkd α a b
    have hk7 : k = 0 ∨ k = 1 ∨ k = 2 ∨ k = 3 ∨ k = 4 ∨ k = 5 ∨ k = 6 := by omega
    have hd7 : kd = 0 ∨ kd = 1 ∨ kd = 2 ∨ kd = 3 ∨ kd = 4 ∨ kd = 5 ∨ kd = 6 := by omega
    rcases hk7 with rfl | rfl | rfl | rfl | rfl | rfl | rfl <;> rcases hd7 with rfl | rfl | rfl | rfl | rfl | rfl | rfl <;> rfl
  rw [e_183_0, e_183_1, e_183_2, e_183_3, e_183_4, e_183_5, e_183_6, e_183_7, e_183_7, b01_0, b01_1, gd_t, gd_t, q k hk kd hkd]
  cases unI kd k <;> rfl
theorem q_as (d : Nat) {ν : MM} {A T st H W S : Nat} {ht hs : Int32} {cs : List Cl} (hQ : QX ν A T st H W S ht hs cs) (v1 v2 : Int32) : QI (fun μ => ev (d + 2) 99 0 [.ref 28, .int v1, .int v2] [] (fx μ)) (fun μ => ev (d + 2) 192 0 [.ref 46, .int v1, .int v2] [] (fx μ)) ν := by
  obtain ⟨-, r51, -⟩ := qR (d + 1) hQ
  obtain ⟨-, -, -, r115, -⟩ := qR d hQ
  have hb := hQ.2.1.2.2.1
  by_cases c1 : okN W v1 = true
  case neg =>
    refine ⟨-1, ν, ν, ?_, ?_, Fr.rf, Fr.rf, hb⟩
    · show ev (d + 2) 99 0 [.ref 28, .int v1, .int v2] [] (fx ν) = _
      rw [e_99_0, r51, bnd_3, app1, if_neg c1]
      refine (e_99_1 ..).trans ?_
      rw [asN_n, e_99_4]
    · show ev (d + 2) 192 0 [.ref 46, .int v1, .int v2] [] (fx ν) = _
      rw [e_192_0, r115, bnd_1, app1]
      refine (e_192_1 ..).trans ?_
      rw [bI_0, if_neg c1, e_192_4]
  obtain ⟨j, r, k, v, h, co, si, ej, hjW, hj, g1, hR, hm, -⟩ := hQ.2.2.2.2.1.at c1
  obtain ⟨-, hshp, x1, x2, x3, x4, x5, y0, y2, y3, y4, -⟩ := hR
  obtain ⟨m1, m2, m3, m4, m5⟩ := hm
  obtain ⟨n24, n19, n14, n34, -⟩ := w_num j hj
  have cin7 := clsK_in x1
  rw [← hshp] at cin7
  have cl0 : ev (d + 2) 99 0 [.ref 28, .int v1, .int v2] [] (fx ν) = if rg 0 6 v2 = true then ev (d + 2) 99 5 [.int v2, .ref r] [] (fx ν) else some (some (.int (-1)), fx ν) := by
    rw [e_99_0, r51, bnd_3, app1, if_pos c1, g1]
    refine (e_99_1 ..).trans ?_
    rw [asN_s, e_99_2, s_105, bnd_1, app1]
    refine (e_99_3 ..).trans ?_
    rw [bI_0, e_99_4]
  have md0 : ev (d + 2) 192 0 [.ref 46, .int v1, .int v2] [] (fx ν) = if rg 0 6 v2 = true then ev (d + 2) 192 5 [.ref 46, .int (Int32.ofNat j), .int v2] [] (fx ν) else some (some (.int (-1)), fx ν) := by
    rw [e_192_0, r115, bnd_1, app1]
    refine (e_192_1 ..).trans ?_
    rw [bI_0, if_pos c1, e_192_2, s_113r, bnd_1, app1]
    refine (e_192_3 ..).trans ?_
    rw [bI_0, e_192_4, ej]
  by_cases c2 : rg 0 6 v2 = true
  case neg =>
    rw [if_neg c2] at cl0 md0
    exact ⟨_, ν, ν, cl0, md0, Fr.rf, Fr.rf, hb⟩
  rw [if_pos c2] at cl0 md0
  obtain ⟨n, hn, en⟩ := rg_n (hi := 6) (by decide) c2
  refine ⟨if unI k n = true then Int32.ofNat v else -6, ν, ν, cl0.trans ?_, md0.trans ?_, Fr.rf, Fr.rf, hb⟩
  · rw [e_99_5, en, s_100 (d + 1) (show n < 7 by omega) x1 hshp, bnd_1, app1]
    refine (e_99_6 ..).trans ?_
    rw [bI_0, e_99_7, e_99_8, e_99_9, e_99_9, cin7, gd_t, y2]
    cases unI k n <;> rfl
  · rw [e_192_5, n14, inb_O (by omega) (by omega), gd_t, tn_O (by omega), m1, en, s_183 (d + 1) (show n < 7 by omega) x1, bnd_1, app1]
    refine (e_192_6 ..).trans ?_
    rw [bI_0, e_192_7, e_192_8, e_192_9, e_192_9, n19, inb_O (by omega) (by omega), gd_t, tn_O (by omega), m2]
    cases unI k n <;> rfl
/-! trace, count, now -/
def QTr (ν : MM) : Prop := ∃ n : Nat, n ≤ 100 ∧ gI ν 42 1 = Int32.ofNat n ∧ gI ν 46 21 = Int32.ofNat n ∧ ∀ i, i < 20 → gI ν 43 i = gI ν 56 i
theorem QTr.fr {ν ν' : MM} (f : Fr PS QS ν ν') (g : QTr ν) : QTr ν' := by
  obtain ⟨n, h1, h2, h3, h4⟩ := g
  refine ⟨n, h1, by rw [f.rowS (q := 42) rfl]; exact h2, ?_, fun i hi => by rw [f.rowS (q := 43) rfl, f.rowS (q := 56) rfl]; exact h4 i hi⟩
  rw [f.rI 46 21 rfl]
  exact h3
theorem q_trace (d : Nat) {ν : MM} (hT : QTr ν) (hb : b01 (gI ν 50 0) = true) (v1 : Int32) : QI (fun μ => ev (d + 1) 98 0 [.ref 28, .int v1] [] (fx μ)) (fun μ => ev (d + 1) 191 0 [.ref 46, .int v1] [] (fx μ)) ν := by
  obtain ⟨n, h1, h2, h3, h4⟩ := hT
  have e20 : ((20 : Int32) ≤ Int32.ofNat n) = (20 ≤ n) := O_le (a := 20) (by decide) (by omega)
  have md0 : ev (d + 1) 191 0 [.ref 46, .int v1] [] (fx ν) = if (!decide (v1 < 0) && !decide (Int32.ofNat (if 20 ≤ n then 20 else n) - 1 < v1)) = true then ev (d + 1) 191 5 [.ref 46, .int v1] [] (fx ν) else some (some (.int (-1)), fx ν) := by
    rw [e_191_0, h3]
    by_cases c : 20 ≤ n
    · rw [if_pos (by rw [e20]; exact c), if_pos c, e_191_2, e_191_3, s_113, bnd_1, app1]
      refine (e_191_4 ..).trans ?_
      rw [bI_0, e_191_6, e_191_7]
      rfl
    · rw [if_neg (by rw [e20]; exact c), if_neg c, e_191_1, h3, e_191_3, s_113, bnd_1, app1]
      refine (e_191_4 ..).trans ?_
      rw [bI_0, e_191_6, e_191_7]
  have okm : (!decide (v1 < 0) && !decide (Int32.ofNat (if 20 ≤ n then 20 else n) - 1 < v1)) = okN (if 20 ≤ n then 20 else n) v1 := by
    unfold okN
    congr 1
    rw [Bool.eq_iff_iff, Bool.not_eq_true', decide_eq_false_iff_not, decide_eq_true_iff, Int32.lt_iff_toInt_lt, Int32.lt_iff_toInt_lt]
    have q : ∀ n, n ≤ 20 → (Int32.ofNat n - 1).toInt = (Int32.ofNat n).toInt - 1 := by decide
    rw [q _ (by split <;> omega)]
    omega
  rw [okm] at md0
  have cl0 : ev (d + 1) 98 0 [.ref 28, .int v1] [] (fx ν) = if okN (if 20 ≤ n then 20 else n) v1 = true then ev (d + 1) 98 4 [.ref 28, .int v1] [] (fx ν) else some (some (.int (-1)), fx ν) := by
    rw [e_98_0, e_98_1, e_98_2, e_98_3, h2]
    by_cases x1 : v1 < 0
    · rw [if_pos x1, if_neg]
      unfold okN
      rw [decide_eq_true x1]
      exact fun h => Bool.noConfusion h
    rw [if_neg x1]
    by_cases x2 : Int32.ofNat n ≤ v1
    · rw [if_pos x2, if_neg]
      intro h
      obtain ⟨i, hi, rfl⟩ := okN_t (by split <;> omega) h
      have x2 := O_le (a := n) (b := i) (by omega) (by split at hi <;> omega) ▸ x2
      split at hi <;> omega
    rw [if_neg x2]
    obtain ⟨i, hi, rfl⟩ := O_of x1 (Int32.not_le.mp x2) (by omega)
    have x20 : (Int32.ofNat i < 20) = (i < 20) := O_lt (b := 20) (by omega) (by decide)
    rw [okN_O (by split <;> omega) (by omega)]
    by_cases x3 : i < 20
    · rw [if_pos (by rw [x20]; exact x3), if_pos (decide_eq_true (by split <;> omega))]
    · rw [if_neg (by rw [x20]; exact x3), if_neg (by rw [decide_eq_false (by split <;> omega)]; decide)]
  by_cases c : okN (if 20 ≤ n then 20 else n) v1 = true
  · rw [if_pos c] at cl0 md0
    obtain ⟨i, hi, rfl⟩ := okN_t (by split <;> omega) c
    have hi20 : i < 20 := by split at hi <;> omega
    refine ⟨gI ν 43 i, ν, ν, cl0.trans ?_, md0.trans ?_, Fr.rf, Fr.rf, hb⟩
    · rw [e_98_4, inb_O hi20 (by omega), gd_t, tn_O (by omega)]
    · rw [e_191_5, inb_O hi20 (by omega), gd_t, tn_O (by omega), e_191_7, h4 i hi20]
  · rw [if_neg c] at cl0 md0
    exact ⟨_, ν, ν, cl0, md0, Fr.rf, Fr.rf, hb⟩
