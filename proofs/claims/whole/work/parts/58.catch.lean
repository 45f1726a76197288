/-! catches, all, tell -/
theorem q_catches (d : Nat) {ν : MM} {A T st H W S : Nat} {ht hs : Int32} {cs : List Cl} (hQ : QX ν A T st H W S ht hs cs) (v1 v2 v3 : Int32) : QI (fun μ => ev (d + 3) 81 0 [.ref 28, .int v1, .int v2, .int v3] [] (fx μ)) (fun μ => ev (d + 3) 171 0 [.ref 46, .int v1, .int v2, .int v3] [] (fx μ)) ν := by
  obtain ⟨-, r51, -⟩ := qR (d + 2) hQ
  obtain ⟨-, -, -, r115, -⟩ := qR (d + 1) hQ
  have hb := hQ.2.1.2.2.1
  have cl0 : ev (d + 3) 81 0 [.ref 28, .int v1, .int v2, .int v3] [] (fx ν) = asN (rv (if okN W v1 = true then gR ν 33 v1.toNatClampNeg else none)) (some (some (.int (-1)), fx ν)) fun a => asN (rv (if okN W v2 = true then gR ν 33 v2.toNatClampNeg else none)) (some (some (.int (-1)), fx ν)) fun b => ev (d + 3) 81 5 [.ref 28, .int v3, .ref a, .ref b] [] (fx ν) := by
    rw [e_81_0, r51, bnd_3, app1]
    refine (e_81_1 ..).trans ?_
    generalize (if okN W v1 = true then gR ν 33 v1.toNatClampNeg else none) = o1
    cases o1 with
    | none =>
      rw [asN_n, asN_n, r51, bnd_3, app1]
      refine (e_81_2 ..).trans ?_
      rw [asN_c, e_81_4]
    | some a =>
      rw [asN_s, asN_s, r51, bnd_3, app1]
      refine (e_81_2a ..).trans ?_
      generalize (if okN W v2 = true then gR ν 33 v2.toNatClampNeg else none) = o2
      cases o2 with
      | none => rw [asN_n, asN_n, e_81_3, e_81_4]
      | some b => rw [asN_s, asN_s, e_81_3a]
  by_cases c1 : okN W v1 = true
  case neg =>
    rw [if_neg c1, asN_n] at cl0
    refine ⟨_, ν, ν, cl0, ?_, Fr.rf, Fr.rf, hb⟩
    show ev (d + 3) 171 0 [.ref 46, .int v1, .int v2, .int v3] [] (fx ν) = _
    rw [e_171_0, r115, bnd_1, app1]
    refine (e_171_1 ..).trans ?_
    rw [bI_0, if_neg c1, e_171_4]
  by_cases c2 : okN W v2 = true
  case neg =>
    obtain ⟨_, a, _, _, _, _, _, -, -, -, g1, -⟩ := hQ.2.2.2.2.1.at c1
    rw [if_pos c1, g1, if_neg c2, asN_s, asN_n] at cl0
    refine ⟨_, ν, ν, cl0, ?_, Fr.rf, Fr.rf, hb⟩
    show ev (d + 3) 171 0 [.ref 46, .int v1, .int v2, .int v3] [] (fx ν) = _
    rw [e_171_0, r115, bnd_1, app1]
    refine (e_171_1 ..).trans ?_
    rw [bI_0, if_pos c1, e_171_2, r115, bnd_1, app1]
    refine (e_171_3 ..).trans ?_
    rw [bI_0, if_neg c2, e_171_4]
  obtain ⟨j1, a, k, v, h, co, si, ej1, hj1, hj1', g1, hR1, hm1, -⟩ := hQ.2.2.2.2.1.at c1
  obtain ⟨j2, b, k2, v2', h2, co2, si2, ej2, hj2, hj2', g2, hR2, hm2, -⟩ := hQ.2.2.2.2.1.at c2
  rw [if_pos c1, if_pos c2, g1, g2, asN_s, asN_s] at cl0
  have md0 : ev (d + 3) 171 0 [.ref 46, .int v1, .int v2, .int v3] [] (fx ν) = if rg 0 6 v3 = true then ev (d + 3) 171 8 [.ref 46, .int v1, .int v2, .int v3] [] (fx ν) else some (some (.int (-2)), fx ν) := by
    rw [e_171_0, r115, bnd_1, app1]
    refine (e_171_1 ..).trans ?_
    rw [bI_0, if_pos c1, e_171_2, r115, bnd_1, app1]
    refine (e_171_3 ..).trans ?_
    rw [bI_0, if_pos c2, e_171_5, s_113r, bnd_1, app1]
    refine (e_171_6 ..).trans ?_
    rw [bI_0, e_171_7]
  have cl1 : ev (d + 3) 81 5 [.ref 28, .int v3, .ref a, .ref b] [] (fx ν) = if rg 0 6 v3 = true then ev (d + 3) 81 8 [.ref 28, .int v3, .ref a, .ref b] [] (fx ν) else some (some (.int (-2)), fx ν) := by
    rw [e_81_5, e_81_6, e_81_7]
    unfold rg
    by_cases x1 : v3 < 0
    · rw [if_pos x1, decide_eq_true x1]; rfl
    · rw [if_neg x1, decide_eq_false x1]
      by_cases x2 : v3 ≤ 6
      · rw [if_pos x2, decide_eq_false (Int32.not_lt.mpr x2)]; rfl
      · rw [if_neg x2, decide_eq_true (Int32.not_le.mp x2)]; rfl
  by_cases c3 : rg 0 6 v3 = true
  case neg =>
    rw [if_neg c3] at cl1 md0
    exact ⟨_, ν, ν, cl0.trans cl1, md0, Fr.rf, Fr.rf, hb⟩
  rw [if_pos c3] at cl1 md0
  obtain ⟨n, hn, en⟩ := rg_n (hi := 6) (by decide) c3
  obtain ⟨-, -, -, -, -, -, -, hHc, hH2, -⟩ := hQ.1
  have hH := hQ.2.1.2.2.2.1
  have hR1' := hR1
  have hR2' := hR2
  obtain ⟨-, -, x1, x2, x3, x4, x5, -⟩ := hR1'
  obtain ⟨-, -, y1, y2, y3, y4, y5, -⟩ := hR2'
  have l1 := tkn_le (k := k) (v := v) H x3 x5
  have l2 := tkn_le (k := k2) (v := v2') (H + n) y3 y5
  have eLt : (Int32.ofNat (tkn k v h si H) < Int32.ofNat n + Int32.ofNat (tkn k2 v2' h2 si2 (H + n))) = (tkn k v h si H < n + tkn k2 v2' h2 si2 (H + n)) := by
    rw [O_add]
    exact O_lt (by omega) (by omega)
  refine ⟨if tkn k v h si H < n + tkn k2 v2' h2 si2 (H + n) then 0 else 1, ν, ν, cl0.trans (cl1.trans ?_), md0.trans ?_, Fr.rf, Fr.rf, hb⟩
  · rw [e_81_8]
    refine (hf_any (d + 1) hR2 (h := H + n) (by rw [hHc, en, O_add]) (by omega) _).trans ?_
    refine (e_81_9 ..).trans ?_
    refine (hf_any (d + 1) hR1 hHc (by omega) _).trans ?_
    refine (e_81_10 ..).trans ?_
    rw [en, e_81_11, e_81_12, e_81_13, e_81_13]
    by_cases c : tkn k v h si H < n + tkn k2 v2' h2 si2 (H + n)
    · rw [if_pos (by rw [eLt]; exact c), if_pos c]
    · rw [if_neg (by rw [eLt]; exact c), if_neg c]
  · rw [e_171_8, hH, ej1, ej2, en, O_add, t_142 (d + 2) hj2' hm2 y1 y2 y3 (by omega), bnd_1, app1]
    refine (e_171_9 ..).trans ?_
    rw [s_143 (d + 1) hj1' hm1 x1 x2 x3 hH hH2, bnd_1, app1]
    refine (e_171_10 ..).trans ?_
    rw [e_171_11, e_171_12, e_171_13, e_171_13]
    by_cases c : tkn k v h si H < n + tkn k2 v2' h2 si2 (H + n)
    · rw [if_pos (by rw [eLt]; exact c), if_pos c]
    · rw [if_neg (by rw [eLt]; exact c), if_neg c]
/-! all -/
def mxF (f : Nat → Int32) (H : Nat) : Nat → Int32
  | 0 => 0
  | i + 1 => if mxF f H i < Int32.ofNat (NJ f H i) then Int32.ofNat (NJ f H i) else mxF f H i
def csF (f : Nat → Int32) (cs : List Cl) (H : Nat) : Nat → Int32
  | 0 => 0
  | i + 1 => csF f cs H i + CJ f cs H i
theorem l_82 (d : Nat) {ν : MM} {A T st H W S : Nat} {ht hs : Int32} {cs : List Cl} (hQ : QX ν A T st H W S ht hs cs) (v1 : Int32) : ∀ (m i : Nat), i + m = W → ev (d + 4) 82 4 [.ref 28, .int v1, .int (mxF (gI ν 47) H i), .int (csF (gI ν 47) cs H i), .int (Int32.ofNat i)] [] (fx ν) = some (some (.int (if v1 = 0 then mxF (gI ν 47) H W else csF (gI ν 47) cs H W)), fx ν)
  | 0, i, hi => by
    obtain ⟨h1, h2, h3, h4⟩ := hQ.2.2.2.2.1
    rw [e_82_4, h1, if_pos (by rw [O_le (by omega) (by omega)]; omega), e_82_11, e_82_12, e_82_13, e_82_14, e_82_14, show i = W by omega]
    by_cases c : v1 = 0
    · rw [if_pos c, if_pos c]
    · rw [if_neg c, if_neg c]
  | m + 1, i, hi => by
    obtain ⟨h1, h2, h3, h4⟩ := hQ.2.2.2.2.1
    obtain ⟨r, k, v, h, co, si, h5, g1, a2, a3, -, e1, e2⟩ := hQ.2.2.2.2.1.num (show i < W by omega)
    obtain ⟨hA, hCo, hcs, -, -, -, -, hHc, hH2, -⟩ := hQ.1
    have ecost := s_56 d hA hCo hcs.2.2 hHc (by omega) a2
    rw [e2] at ecost
    obtain ⟨-, r51, -⟩ := qR (d + 3) hQ
    rw [e_82_4, h1, if_neg (by rw [O_le (by omega) (by omega)]; omega), e_82_5, r51, bnd_3, app1, if_pos (by rw [okN_O (by omega) (by omega)]; exact decide_eq_true (by omega)), tn_O (by omega), g1]
    refine (e_82_6 ..).trans ?_
    rw [asN_s, e_82_7]
    refine (hf_any (d + 2) a2 hHc (by omega) _).trans ?_
    rw [e1]
    refine (e_82_8 ..).trans ?_
    rw [ecost, bnd_1, app1]
    refine (e_82_9 ..).trans ?_
    rw [e_82_10, O_succ]
    exact l_82 d hQ v1 m (i + 1) (by omega)
theorem l_172 (d : Nat) {A T st H W S : Nat} {ht hs : Int32} {cs : List Cl} (f : Nat → Int32) (v1 : Int32) : ∀ (m i : Nat) (ν : MM), i + m = W → gI ν 47 = f → QX ν A T st H W S ht hs cs → ∃ ν', ev (d + 4) 172 4 [.ref 46, .int v1, .int (mxF f H i), .int (csF f cs H i), .int (Int32.ofNat i)] [] (fx ν) = some (some (.int (if v1 = 0 then mxF f H W else csF f cs H W)), fx ν') ∧ Fr PS QS ν ν' ∧ b01 (gI ν' 50 0) = true
  | 0, i, ν, hi, hf, hQ => by
    obtain ⟨h1, h2, h3, h4⟩ := hQ.2.2.2.2.1
    refine ⟨ν, ?_, Fr.rf, hQ.2.1.2.2.1⟩
    rw [e_172_4, h2, if_pos (by rw [O_le (by omega) (by omega)]; omega), e_172_12, e_172_13, e_172_14, e_172_15, e_172_15, show i = W by omega]
    by_cases c : v1 = 0
    · rw [if_pos c, if_pos c]
    · rw [if_neg c, if_neg c]
  | m + 1, i, ν, hi, hf, hQ => by
    obtain ⟨h1, h2, h3, h4⟩ := hQ.2.2.2.2.1
    obtain ⟨ν1, e1, f1, q1, r1⟩ := costQ d hQ (show i < W by omega)
    obtain ⟨ν', e, f2, b⟩ := l_172 d f v1 m (i + 1) ν1 (by omega) (by rw [r1]; exact hf) q1
    refine ⟨ν', ?_, f1.tr f2, b⟩
    have t := tkQ (d + 2) hQ (show i < W by omega)
    rw [hf] at t e1
    have mid : ev (d + 4) 172 4 [.ref 46, .int v1, .int (mxF f H i), .int (csF f cs H i), .int (Int32.ofNat i)] [] (fx ν) = ev (d + 4) 172 10 [.ref 46, .int v1, .int (csF f cs H i), .int (Int32.ofNat i)] [.int (mxF f H (i + 1))] (fx ν) := by
      rw [e_172_4, h2, if_neg (by rw [O_le (by omega) (by omega)]; omega), e_172_5, t, bnd_1, app1]
      refine (e_172_6 ..).trans ?_
      show _ = ev (d + 4) 172 10 [.ref 46, .int v1, .int (csF f cs H i), .int (Int32.ofNat i)] [.int (if mxF f H i < Int32.ofNat (NJ f H i) then Int32.ofNat (NJ f H i) else mxF f H i)] (fx ν)
      by_cases c : Int32.ofNat (NJ f H i) ≤ mxF f H i
      · rw [if_pos c, if_neg (Int32.not_lt.mpr c), e_172_9]
      · rw [if_neg c, if_pos (Int32.not_le.mp c), e_172_7, t, bnd_1, app1]
        exact e_172_8 ..
    rw [mid, e_172_10, e1, bnd_1, app1]
    refine (e_172_11 ..).trans ?_
    rw [O_succ]
    exact e
theorem q_all (d : Nat) {ν : MM} {A T st H W S : Nat} {ht hs : Int32} {cs : List Cl} (hQ : QX ν A T st H W S ht hs cs) (v1 : Int32) : QI (fun μ => ev (d + 4) 82 0 [.ref 28, .int v1] [] (fx μ)) (fun μ => ev (d + 4) 172 0 [.ref 46, .int v1] [] (fx μ)) ν := by
  have cl0 : ev (d + 4) 82 0 [.ref 28, .int v1] [] (fx ν) = if rg 0 1 v1 = true then ev (d + 4) 82 3 [.ref 28, .int v1] [] (fx ν) else some (some (.int (-1)), fx ν) := by
    rw [e_82_0, e_82_1, e_82_2]
    unfold rg
    by_cases x1 : v1 < 0
    · rw [if_pos x1, decide_eq_true x1]; rfl
    · rw [if_neg x1, decide_eq_false x1]
      by_cases x2 : v1 ≤ 1
      · rw [if_pos x2, decide_eq_false (Int32.not_lt.mpr x2)]; rfl
      · rw [if_neg x2, decide_eq_true (Int32.not_le.mp x2)]; rfl
  have md0 : ev (d + 4) 172 0 [.ref 46, .int v1] [] (fx ν) = if rg 0 1 v1 = true then ev (d + 4) 172 3 [.ref 46, .int v1] [] (fx ν) else some (some (.int (-1)), fx ν) := by
    rw [e_172_0, s_113r, bnd_1, app1]
    refine (e_172_1 ..).trans ?_
    rw [bI_0, e_172_2]
  by_cases c : rg 0 1 v1 = true
  · rw [if_pos c] at cl0 md0
    obtain ⟨ν', e, f, b⟩ := l_172 d (gI ν 47) v1 W 0 ν (by omega) rfl hQ
    have e1 := l_82 d hQ v1 W 0 (by omega)
    refine ⟨if v1 = 0 then mxF (gI ν 47) H W else csF (gI ν 47) cs H W, ν, ν', cl0.trans ?_, md0.trans ?_, Fr.rf, f, b⟩
    · rw [e_82_3]
      exact e1
    · rw [e_172_3]
      exact e
  · rw [if_neg c] at cl0 md0
    exact ⟨_, ν, ν, cl0, md0, Fr.rf, Fr.rf, hQ.2.1.2.2.1⟩
/-! tell -/
def setI (p : Nat → Bool) : Int32 := (((0 ||| (if p 0 = true then (1 : Int32) <<< (Int32.ofNat 0 &&& 31) else 0)) ||| (if p 1 = true then (1 : Int32) <<< (Int32.ofNat 1 &&& 31) else 0)) ||| (if p 2 = true then (1 : Int32) <<< (Int32.ofNat 2 &&& 31) else 0)) ||| (if p 3 = true then (1 : Int32) <<< (Int32.ofNat 3 &&& 31) else 0)
theorem setI_num : ∀ p0 p1 p2 p3 : Bool, ∀ j, j < 32 → gb ((((0 ||| (if p0 = true then (1 : Int32) <<< (Int32.ofNat 0 &&& 31) else 0)) ||| (if p1 = true then (1 : Int32) <<< (Int32.ofNat 1 &&& 31) else 0)) ||| (if p2 = true then (1 : Int32) <<< (Int32.ofNat 2 &&& 31) else 0)) ||| (if p3 = true then (1 : Int32) <<< (Int32.ofNat 3 &&& 31) else 0)) j = if j = 0 then p0 else if j = 1 then p1 else if j = 2 then p2 else if j = 3 then p3 else false := by decide +kernel
theorem setI_eq {x : Int32} (hx : S4 x) {p : Nat → Bool} (h : ∀ j, j < 4 → gb x j = p j) : x = setI p := by
  refine I_ext fun j hj => ?_
  unfold setI
  rw [setI_num _ _ _ _ j hj]
  by_cases c : j < 4
  · rw [h j c]
    match j, c with
    | 0, _ => rfl
    | 1, _ => rfl
    | 2, _ => rfl
    | 3, _ => rfl
  · rw [hx j (by omega), if_neg (by omega), if_neg (by omega), if_neg (by omega), if_neg (by omega)]
theorem l_162 (d : Nat) {ν : MM} {t : Nat} (ht : t < 4) {w : Nat → Nat → Nat} (hw : WM ν w) (hl : ∀ k, k < 4 → w t k ≤ 281474976710656) (x : Int32) {k : Nat} (hk : k < 4) : ev d 162 10 [.ref 46, .int (Int32.ofNat t), .int x, .int (Int32.ofNat k)] [] (fx ν) = ev d 162 10 [.ref 46, .int (Int32.ofNat t), .int (x ||| (if decide (0 < w t k) = true then (1 : Int32) <<< (Int32.ofNat k &&& 31) else 0)), .int (Int32.ofNat (k + 1))] [] (fx ν) := by
  have h := hl k hk
  have le : (lg_cmp (Int64.ofNat (w t k)) 0 ≤ 0) = (w t k ≤ 0) := by
    apply propext
    rw [lg_cmp_le]
    exact Int64.ofNat_le_iff_le (b := 0) (by omega) (by decide)
  rw [e_162_10, if_neg (ge4 k hk), e_162_11, ix_num t ht k hk, inb_O (by omega) (by omega), gd_t, tn_O (by omega), hw t ht k hk]
  by_cases c : 0 < w t k
  · rw [if_neg (by rw [le]; omega), if_pos (decide_eq_true c), e_162_12, e_162_14, O_succ]
  · rw [if_pos (by rw [le]; omega), if_neg (by rw [decide_eq_false c]; decide), e_162_13, e_162_14, O_succ]
theorem q_tell (d : Nat) {ν : MM} {A T st H W S : Nat} {ht hs : Int32} {cs : List Cl} (hQ : QX ν A T st H W S ht hs cs) (v1 v2 : Int32) : QI (fun μ => ev (d + 5) 77 0 [.ref 28, .int v1, .int v2] [] (fx μ)) (fun μ => ev (d + 5) 162 0 [.ref 46, .int v1, .int v2] [] (fx μ)) ν := by
  obtain ⟨-, r51, -, -, r49, -⟩ := qR (d + 4) hQ
  obtain ⟨-, -, -, r115, -, r114⟩ := qR (d + 3) hQ
  have hb := hQ.2.1.2.2.1
  have cl0 : ev (d + 5) 77 0 [.ref 28, .int v1, .int v2] [] (fx ν) = asN (rv (if okN W v2 = true then gR ν 33 v2.toNatClampNeg else none)) (some (some (.int (-1)), fx ν)) fun a => if okN T v1 = true then ev (d + 5) 77 5 [.ref 28, .int v1, .ref a] [] (fx ν) else some (some (.int (-1)), fx ν) := by
    rw [e_77_0, r51, bnd_3, app1]
    refine (e_77_1 ..).trans ?_
    generalize (if okN W v2 = true then gR ν 33 v2.toNatClampNeg else none) = o1
    cases o1 with
    | none =>
      rw [asN_n, asN_n, r49, bnd_1, app1]
      refine (e_77_2 ..).trans ?_
      rw [e_77_3, e_77_4]
      split <;> rfl
    | some a =>
      rw [asN_s, asN_s, r49, bnd_1, app1]
      refine (e_77_2a ..).trans ?_
      rw [bI_0, e_77_3a, e_77_4]
  have md0 : ev (d + 5) 162 0 [.ref 46, .int v1, .int v2] [] (fx ν) = if okN T v1 = true then (if okN W v2 = true then ev (d + 5) 162 5 [.ref 46, .int v1, .int v2] [] (fx ν) else some (some (.int (-1)), fx ν)) else some (some (.int (-1)), fx ν) := by
    rw [e_162_0, r114, bnd_1, app1]
    refine (e_162_1 ..).trans ?_
    rw [bI_0, e_162_2, r115, bnd_1, app1, e_162_4]
    by_cases c : okN T v1 = true
    · rw [if_pos c, if_pos c]
      refine (e_162_3 ..).trans ?_
      rw [bI_0, e_162_4]
    · rw [if_neg c, if_neg c]
  by_cases c2 : okN W v2 = true
  case neg =>
    rw [if_neg c2, asN_n] at cl0
    refine ⟨_, ν, ν, cl0, md0.trans ?_, Fr.rf, Fr.rf, hb⟩
    rw [if_neg c2]
    split <;> rfl
  obtain ⟨j, a, k, v, h, co, si, ej, hjW, hj, g1, hR, hm, -⟩ := hQ.2.2.2.2.1.at c2
  rw [if_pos c2, g1, asN_s] at cl0
  rw [if_pos c2] at md0
  by_cases c1 : okN T v1 = true
  case neg =>
    rw [if_neg c1] at cl0 md0
    exact ⟨_, ν, ν, cl0, md0, Fr.rf, Fr.rf, hb⟩
  rw [if_pos c1] at cl0 md0
  obtain ⟨hA, hCo, hc, hT, hT4, hS, hs4, hHc, hH2, -⟩ := hQ.1
  have h256 := p4_le hT4
  obtain ⟨t, ht, et⟩ := okN_t (by omega) c1
  have hR' := hR
  obtain ⟨-, -, x1, x2, x3, x4, x5, -⟩ := hR'
  have hN := tkn_le (k := k) (v := v) H x3 x5
  have hM := hQ.2.1
  have hST := hQ.2.2.1
  have tk := s_143 (d + 3) hj hm x1 x2 x3 hM.2.2.2.1 hH2
  generalize hNe : tkn k v h si H = N at hN tk
  obtain ⟨ν1, e1, f1, g1', w1⟩ := s_149 (d + 3) (ν := ν) (st := st) (by omega)
  have r1 := f1.rowS (q := 47) rfl
  have hM1 : MO ν1 T H cs := hM.of r1 (by rw [g1']; exact hb)
  have tk1 := s_143 (d + 3) hj (hm.of r1 (S := 47) (S' := 47)) x1 x2 x3 hM1.2.2.2.1 hH2
  rw [hNe] at tk1
  obtain ⟨ν2, e2, f2, b2, w2⟩ := s_152 d (N := N) (by omega) hM1 _ w1
  have hsD := stD_lt st t
  have hwl : ∀ k, k < 4 → WH cs T st H N t k ≤ 281474976710656 := by
    intro k hk
    rw [WH_o cs st H N ht]
    have h1 := w_le (owt cs st H N t) hk
    have h2 : smw (owt cs st H N t) = 2 ^ N := by unfold owt; rw [smw_oft hc, smw_w01 _ hsD, Nat.mul_one]
    have h3 : 2 ^ N ≤ 2 ^ 12 := Nat.pow_le_pow_right (by decide) hN
    omega
  have hw2 : WM ν2 (WH cs T st H N) := w2
  refine ⟨rch cs t H N (one4 (stD st t)), ν, ν2, cl0.trans ?_, md0.trans ?_, Fr.rf, f1.tr f2, b2⟩
  · rw [e_77_5]
    refine (hf_any (d + 3) hR hHc (by omega) _).trans ?_
    rw [hNe]
    refine (e_77_6 ..).trans ?_
    rw [et, s_59 d hA hCo hc (by omega) hHc hH2 (by omega), bnd_1, app1]
    refine (e_77_7 ..).trans ?_
    rw [hS, s_107, bnd_1, app1, stI_n st (by omega) t (by omega)]
    refine (e_77_8 ..).trans ?_
    rw [s_109 (d + 4) _ (fun i hi => S4_rch hc t H N (S4_one hi)) hsD, bnd_1, app1]
    exact e_77_9 ..
  · rw [e_162_5, s_150 _ hM.2.2.2.2.2.1 hT4 hST.1 hST.2, bnd_1, app1]
    refine (e_162_6 ..).trans ?_
    rw [e1, bnd_0, app0]
    refine (e_162_7 ..).trans ?_
    rw [ej, tk1, bnd_1, app1]
    refine (e_162_8 ..).trans ?_
    rw [e2, bnd_0, app0]
    refine (e_162_9 ..).trans ?_
    rw [et, show (0 : Int32) = Int32.ofNat 0 from rfl, l_162 _ (by omega) hw2 hwl _ (k := 0) (by decide), l_162 _ (by omega) hw2 hwl _ (k := 1) (by decide), l_162 _ (by omega) hw2 hwl _ (k := 2) (by decide), l_162 _ (by omega) hw2 hwl _ (k := 3) (by decide), e_162_10, if_pos (by decide), e_162_15]
    rw [setI_eq (S4_rch hc t H N (S4_one hsD)) (p := fun k => decide (0 < WH cs T st H N t k)) (fun j hj => by
      rw [gb_rch hc t H (gb_one4 _ hsD) N hj, WH_o cs st H N ht]
      rfl)]
    rfl
