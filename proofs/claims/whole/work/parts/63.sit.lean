/-! sit, begin -/
theorem l_169i (d : Nat) {ν : MM} {T r : Nat} (hT : gI ν 47 0 = Int32.ofNat T) (hT4 : T ≤ 4) (hr : r < 256) {R : Nat → Int32} (hR : ∀ t, t < T → gI ν 53 t = R t) (v1 v2 : Int32) : ∀ (k t : Nat), t + k = T → ev (d + 1) 169 4 [.ref 46, .int v1, .int v2, .int (Int32.ofNat r), .int (bI (canB R r t)), .int (Int32.ofNat t)] [] (fx ν) = ev (d + 1) 169 11 [.ref 46, .int v1, .int v2, .int (Int32.ofNat r), .int (bI (canB R r T))] [] (fx ν)
  | 0, t, h => by
    rw [e_169_4, hT, if_pos (by rw [O_le (by omega) (by omega)]; omega), show t = T by omega]
  | k + 1, t, h => by
    have ih := l_169i d hT hT4 hr hR v1 v2 k (t + 1) (by omega)
    have st : canB R r (t + 1) = (canB R r t && gb (R t) (stD r t)) := rfl
    have hd := stD_lt r t
    rw [st] at ih
    rw [e_169_4, hT, if_neg (by rw [O_le (by omega) (by omega)]; omega), e_169_5, bI_0]
    cases hc : canB R r t with
    | false =>
      rw [hc] at ih
      rw [if_neg (by decide), e_169_9, e_169_10, O_succ]
      exact ih
    | true =>
      rw [hc, Bool.true_and] at ih
      rw [if_pos rfl, e_169_6, inb_O (by omega) (by omega), gd_t, s_136, bnd_1, app1, stI_n r hr t (by omega), tn_O (by omega), hR t (by omega)]
      refine (e_169_7 ..).trans ?_
      rw [e_169_8, e_169_9, e_169_10, e_169_10, O_succ]
      have hb := bit_at (R t) (s := stD r t) (by omega)
      cases hg : gb (R t) (stD r t) with
      | true =>
        rw [hg] at ih
        rw [if_pos (by rw [hb]; exact hg)]
        exact ih
      | false =>
        rw [hg] at ih
        rw [if_neg (by rw [hb, hg]; decide)]
        exact ih
/-- the predicate of isSurely -/
def suP (R : Nat → Int32) (so : Nat → Bool) (T q : Nat) : Bool := !(canB R q T && !so q)
theorem l_169 (d : Nat) {T H N k : Nat} {cs : List Cl} {ts : List Int32} (hN : N ≤ 1000) {R : Nat → Int32} : ∀ (m r : Nat) (ν : MM), r + m = 4 ^ T → MO ν T H cs → MY ν k ts → (∀ t, t < T → gI ν 53 t = R t) → ∃ ν', ev (d + 3) 169 1 [.ref 46, .int (Int32.ofNat k), .int (Int32.ofNat N), .int (Int32.ofNat r)] [] (fx ν) = some (some (.int (bI (alF (suP R (fun q => sayT ts T (H + N) (Int32.ofNat q)) T) m r))), fx ν') ∧ Fr PS QS ν ν' ∧ b01 (gI ν' 50 0) = true
  | 0, r, ν, hr, hM, hY, hR => by
    have hM' := hM
    obtain ⟨-, -, hb, -, -, hT, hT4⟩ := hM'
    have h256 := p4_le hT4
    refine ⟨ν, ?_, Fr.rf, hb⟩
    rw [e_169_1, s_154 _ hT hT4, bnd_1, app1]
    refine (e_169_2 ..).trans ?_
    rw [if_pos (by rw [O_le (by omega) (by omega)]; omega), e_169_16]
    rfl
  | m + 1, r, ν, hr, hM, hY, hR => by
    have hM' := hM
    obtain ⟨-, hc, hb, hH, hH2, hT, hT4⟩ := hM'
    have h256 := p4_le hT4
    have start : ev (d + 3) 169 1 [.ref 46, .int (Int32.ofNat k), .int (Int32.ofNat N), .int (Int32.ofNat r)] [] (fx ν) = if canB R r T = true then ev (d + 3) 169 12 [.ref 46, .int (Int32.ofNat k), .int (Int32.ofNat N), .int (Int32.ofNat r)] [] (fx ν) else ev (d + 3) 169 15 [.ref 46, .int (Int32.ofNat k), .int (Int32.ofNat N), .int (Int32.ofNat r)] [] (fx ν) := by
      rw [e_169_1, s_154 _ hT hT4, bnd_1, app1]
      refine (e_169_2 ..).trans ?_
      rw [if_neg (by rw [O_le (by omega) (by omega)]; omega), e_169_3]
      refine (l_169i (d + 2) hT hT4 (show r < 256 by omega) hR _ _ T 0 (by omega)).trans ?_
      rw [e_169_11, bI_0]
    have al : alF (suP R (fun q => sayT ts T (H + N) (Int32.ofNat q)) T) (m + 1) r = (suP R (fun q => sayT ts T (H + N) (Int32.ofNat q)) T r && alF (suP R (fun q => sayT ts T (H + N) (Int32.ofNat q)) T) m (r + 1)) := rfl
    have sp : suP R (fun q => sayT ts T (H + N) (Int32.ofNat q)) T r = !(canB R r T && !sayT ts T (H + N) (Int32.ofNat r)) := rfl
    by_cases c : canB R r T = true
    · rw [if_pos c, e_169_12, hH, O_add] at start
      obtain ⟨ν1, e1, f1, hM1, hY1⟩ := say_m d hM hY (Int32.ofNat r) (h := H + N) (by omega)
      have r53 := f1.rowl (q := 53) rfl rfl rfl
      rw [e1, bnd_1, app1] at start
      have start := start.trans (e_169_13 ..)
      rw [bI_0] at start
      cases hs : sayT ts T (H + N) (Int32.ofNat r) with
      | true =>
        obtain ⟨ν', e, f, b⟩ := l_169 d hN (R := R) m (r + 1) ν1 (by omega) hM1 hY1 (fun t ht => by rw [r53]; exact hR t ht)
        refine ⟨ν', ?_, f1.s.tr f, b⟩
        rw [hs, if_pos rfl, e_169_15, O_succ] at start
        rw [start, al, sp, hs, Bool.not_true, Bool.and_false, Bool.not_false, Bool.true_and]
        exact e
      | false =>
        rw [hs, if_neg (by decide), e_169_14] at start
        refine ⟨ν1, ?_, f1.s, hM1.2.2.1⟩
        rw [start, al, sp, hs, c]
        rfl
    · rw [if_neg c, e_169_15, O_succ] at start
      obtain ⟨ν', e, f, b⟩ := l_169 d hN (R := R) m (r + 1) ν (by omega) hM hY hR
      refine ⟨ν', ?_, f, b⟩
      rw [start, al, sp, Bool.eq_false_iff.mpr c, Bool.false_and, Bool.not_false, Bool.true_and]
      exact e
/-- surely so, so many HOURS on -/
def suN (cs : List Cl) (T st H : Nat) (ts : List Int32) (N : Nat) : Bool := suB (fun t => rch cs t H N (one4 (stD st t))) (fun q => sayT ts T (H + N) (Int32.ofNat q)) T
def fiF (p : Nat → Bool) : Nat → Nat → Int32
  | 0, _ => -5
  | m + 1, k => if p k = true then Int32.ofNat k else fiF p m (k + 1)
theorem l_80 (d : Nat) {A T st H W S c N : Nat} {ht hs : Int32} {cs : List Cl} {ts : List Int32} (hts : okTs 5 ts) (hN : N ≤ 12) : ∀ (m k : Nat) (ν : MM), k + m = 7 → QX ν A T st H W S ht hs cs → ClA ν c (3, 0, ts) → ∃ ν', ev (d + 6) 80 7 [.ref 28, .ref c, .int (Int32.ofNat N), .int (Int32.ofNat k)] [] (fx ν) = some (some (.int (fiF (fun k => suN cs T st H ts (N + k)) m k)), fx ν') ∧ Fr PS QS ν ν' ∧ gI ν' 50 = gI ν 50
  | 0, k, ν, hk, hQ, hC => by
    refine ⟨ν, ?_, Fr.rf, rfl⟩
    have hk7 : k = 7 := by omega
    rw [e_80_7, if_pos (by rw [hk7]; decide), e_80_13]
    rfl
  | m + 1, k, ν, hk, hQ, hC => by
    have hO := hQ.1
    have hO' := hO
    obtain ⟨-, -, hc, hT, hT4, hS, hs4, hH, hH2, -⟩ := hO'
    have h256 := p4_le hT4
    obtain ⟨ν1, e1, f1, b1, g1⟩ := s_90 d (N := N + k) (cl := (3, 0, ts)) (by omega) hts hO hC
    have hS1 : gI ν1 29 9 = Int32.ofNat st := by rw [f1.rowS (q := 29) rfl]; exact hS
    have fl := s_92 (d + 5) g1 hs4 h256
    have q6 : ∀ k, k < 7 → ¬ (6 : Int32) < Int32.ofNat k := by decide
    have run : ev (d + 6) 80 7 [.ref 28, .ref c, .int (Int32.ofNat N), .int (Int32.ofNat k)] [] (fx ν) = if suN cs T st H ts (N + k) = true then some (some (.int (Int32.ofNat k)), fx ν1) else ev (d + 6) 80 7 [.ref 28, .ref c, .int (Int32.ofNat N), .int (Int32.ofNat (k + 1))] [] (fx ν1) := by
      rw [e_80_7, if_neg (q6 k (by omega)), e_80_8, O_add, e1, bnd_0, app0]
      refine (e_80_9 ..).trans ?_
      rw [hS1, fl, bnd_1, app1]
      refine (e_80_10 ..).trans ?_
      rw [bI_0, e_80_11, e_80_12, O_succ]
      have := FB_suB (fun t i => rch cs t H (N + k) (one4 i)) (fun q => sayT ts T (H + (N + k)) (Int32.ofNat q)) hT4 hs4
      rw [this]
      show (if (!suN cs T st H ts (N + k)) = true then _ else _) = _
      cases suN cs T st H ts (N + k) <;> rfl
    rw [run]
    have ff : fiF (fun k => suN cs T st H ts (N + k)) (m + 1) k = if suN cs T st H ts (N + k) = true then Int32.ofNat k else fiF (fun k => suN cs T st H ts (N + k)) m (k + 1) := rfl
    rw [ff]
    by_cases cc : suN cs T st H ts (N + k) = true
    · rw [if_pos cc, if_pos cc]
      exact ⟨ν1, rfl, f1, b1⟩
    · rw [if_neg cc, if_neg cc]
      have hb1 : b01 (gI ν1 50 0) = true := by rw [b1]; exact hQ.2.1.2.2.1
      obtain ⟨ν', e, f, b⟩ := l_80 d hts hN m (k + 1) ν1 (by omega) (hQ.fr f1 hb1) (hC.frS f1)
      exact ⟨ν', e, f1.tr f, b.trans b1⟩
theorem l_170 (d : Nat) {A T st H W S y j : Nat} {ht hs : Int32} {cs : List Cl} {ts : List Int32} (f : Nat → Int32) (hj : j < W) : ∀ (m k : Nat) (ν : MM), k + m = 7 → gI ν 47 = f → QX ν A T st H W S ht hs cs → MY ν y ts → ∃ ν', ev (d + 5) 170 6 [.ref 46, .int (Int32.ofNat y), .int (Int32.ofNat j), .int (Int32.ofNat k)] [] (fx ν) = some (some (.int (fiF (fun k => suN cs T st H ts (NJ f H j + k)) m k)), fx ν') ∧ Fr PS QS ν ν' ∧ b01 (gI ν' 50 0) = true
  | 0, k, ν, hk, hf, hQ, hY => by
    refine ⟨ν, ?_, Fr.rf, hQ.2.1.2.2.1⟩
    have hk7 : k = 7 := by omega
    rw [e_170_6, if_pos (by rw [hk7]; decide), e_170_16]
    rfl
  | m + 1, k, ν, hk, hf, hQ, hY => by
    have hM := hQ.2.1
    have hM' := hM
    obtain ⟨-, hc, hb, hH, hH2, hT, hT4⟩ := hM'
    have hS := hQ.2.2.1
    have h256 := p4_le hT4
    have hNl := NJ_le hQ.2.2.2.2.1 hj H
    obtain ⟨ν1, e1, f1, ⟨b1, -⟩, g1⟩ := s_166 (d + 3) (ν := ν) (st := st) (Nat.lt_of_lt_of_le hS.1 h256)
    have r1 := f1.rowS (q := 47) rfl
    have hM1 : MO ν1 T H cs := hM.of r1 (by rw [b1]; exact hb)
    have hQ1 := hQ.fr f1 (by rw [b1]; exact hb)
    obtain ⟨ν2, e2, f2, ⟨b2, -⟩, g2⟩ := s_168 d (N := NJ f H j + k) (by rw [← hf]; omega) hM1 _ g1
    have r2 := f2.rowS (q := 47) rfl
    have hM2 := hM1.of r2 b2
    have hQ2 := hQ1.fr f2 b2
    have t1 := tkQ (d + 3) hQ1 hj
    have t2 := tkQ (d + 3) hQ2 hj
    rw [r1, hf] at t1
    rw [r2, r1, hf] at t2
    obtain ⟨ν3, e3, f3, b3⟩ := l_169 (d + 1) (N := NJ f H j + k) (by rw [← hf]; omega) (R := fun t => rch cs t H (NJ f H j + k) (one4 (stD st t))) (4 ^ T) 0 ν2 (by omega) hM2 (hY.of (by rw [r2, r1])) (fun t ht => by rw [g2 t (by omega), if_pos ht])
    have q7 : ∀ k, k < 7 → ¬ (7 : Int32) ≤ Int32.ofNat k := by decide
    have run : ev (d + 5) 170 6 [.ref 46, .int (Int32.ofNat y), .int (Int32.ofNat j), .int (Int32.ofNat k)] [] (fx ν) = if suN cs T st H ts (NJ f H j + k) = true then some (some (.int (Int32.ofNat k)), fx ν3) else ev (d + 5) 170 6 [.ref 46, .int (Int32.ofNat y), .int (Int32.ofNat j), .int (Int32.ofNat (k + 1))] [] (fx ν3) := by
      rw [e_170_6, if_neg (q7 k (by omega)), e_170_7, s_150 _ hT hT4 hS.1 hS.2, bnd_1, app1]
      refine (e_170_8 ..).trans ?_
      rw [e1, bnd_0, app0]
      refine (e_170_9 ..).trans ?_
      rw [t1, bnd_1, app1]
      refine (e_170_10 ..).trans ?_
      rw [O_add, e2, bnd_0, app0]
      refine (e_170_11 ..).trans ?_
      rw [t2, bnd_1, app1]
      refine (e_170_12 ..).trans ?_
      rw [O_add, e_169_0]
      refine Eq.trans (congrArg (fun z => bnd 1 z _) e3) ?_
      rw [bnd_1, app1]
      refine (e_170_13 ..).trans ?_
      rw [bI_0, e_170_14, e_170_15, O_succ]
      rfl
    rw [run]
    have ff : fiF (fun k => suN cs T st H ts (NJ f H j + k)) (m + 1) k = if suN cs T st H ts (NJ f H j + k) = true then Int32.ofNat k else fiF (fun k => suN cs T st H ts (NJ f H j + k)) m (k + 1) := rfl
    rw [ff]
    by_cases cc : suN cs T st H ts (NJ f H j + k) = true
    · rw [if_pos cc, if_pos cc]
      exact ⟨ν3, rfl, f1.tr (f2.tr f3), b3⟩
    · rw [if_neg cc, if_neg cc]
      have r3 := f3.rowS (q := 47) rfl
      obtain ⟨ν', e, f', b⟩ := l_170 d f hj m (k + 1) ν3 (by omega) (by rw [r3, r2, r1, hf]) (hQ2.fr f3 b3) (hY.of (by rw [r3, r2, r1]))
      exact ⟨ν', e, (f1.tr (f2.tr f3)).tr f', b⟩
theorem q_sit (d : Nat) {ν : MM} {A T st H W S : Nat} {ht hs : Int32} {cs : List Cl} (hQ : QX ν A T st H W S ht hs cs) (v1 v2 : Int32) : QI (fun μ => ev (d + 6) 80 0 [.ref 28, .int v1, .int v2] [] (fx μ)) (fun μ => ev (d + 6) 170 0 [.ref 46, .int v1, .int v2] [] (fx μ)) ν := by
  obtain ⟨r50, r51, -⟩ := qR (d + 5) hQ
  have hb := hQ.2.1.2.2.1
  have cs0 : ev (d + 6) 80 0 [.ref 28, .int v1, .int v2] [] (fx ν) = asN (rv (if okN S v1 = true then gR ν 32 v1.toNatClampNeg else none)) (some (some (.int (-1)), fx ν)) fun a => asN (rv (if okN W v2 = true then gR ν 33 v2.toNatClampNeg else none)) (some (some (.int (-1)), fx ν)) fun b => ev (d + 6) 80 5 [.ref 28, .ref a, .ref b] [] (fx ν) := by
    rw [e_80_0, r50, bnd_3, app1]
    refine (e_80_1 ..).trans ?_
    generalize (if okN S v1 = true then gR ν 32 v1.toNatClampNeg else none) = o1
    cases o1 with
    | none =>
      rw [asN_n, asN_n, r51, bnd_3, app1]
      refine (e_80_2 ..).trans ?_
      rw [asN_c, e_80_4]
    | some a =>
      rw [asN_s, asN_s, r51, bnd_3, app1]
      refine (e_80_2a ..).trans ?_
      generalize (if okN W v2 = true then gR ν 33 v2.toNatClampNeg else none) = o2
      cases o2 with
      | none => rw [asN_n, asN_n, e_80_3, e_80_4]
      | some b => rw [asN_s, asN_s, e_80_3a]
  have md0 : ∀ {μ : MM}, QX μ A T st H W S ht hs cs → ev (d + 6) 170 0 [.ref 46, .int v1, .int v2] [] (fx μ) = if (okN S v1 && okN W v2) = true then ev (d + 6) 170 6 [.ref 46, .int v1, .int v2, .int 0] [] (fx μ) else some (some (.int (-1)), fx μ) := by
    intro μ hQ
    obtain ⟨-, -, r116, r115, -⟩ := qR (d + 4) hQ
    rw [e_170_0, r116, bnd_1, app1]
    refine (e_170_1 ..).trans ?_
    rw [bI_0, e_170_2, r115, bnd_1, app1, e_170_4]
    by_cases c1 : okN S v1 = true
    · rw [if_pos c1, c1, Bool.true_and]
      refine (e_170_3 ..).trans ?_
      rw [bI_0, e_170_4, e_170_5]
    · rw [if_neg c1, Bool.eq_false_iff.mpr c1]
      rfl
  by_cases c1 : okN S v1 = true
  case neg =>
    rw [if_neg c1, asN_n] at cs0
    exact ⟨_, ν, ν, cs0, (md0 hQ).trans (by rw [Bool.eq_false_iff.mpr c1]; rfl), Fr.rf, Fr.rf, hb⟩
  obtain ⟨y, cc, ts, ey, g1, hC, hY⟩ := hQ.2.2.2.2.2.at c1
  by_cases c2 : okN W v2 = true
  case neg =>
    rw [if_pos c1, if_neg c2, g1, asN_s, asN_n] at cs0
    exact ⟨_, ν, ν, cs0, (md0 hQ).trans (by rw [Bool.eq_false_iff.mpr c2, Bool.and_false]; rfl), Fr.rf, Fr.rf, hb⟩
  obtain ⟨j, r', k', v', h', co', si', ej, hjW, hj, g2', -⟩ := hQ.2.2.2.2.1.at c2
  obtain ⟨r, k, v, h, co, si, h5, g2, hR, hm, -, eN, -⟩ := hQ.2.2.2.2.1.num hjW
  have g2 : gR ν 33 v2.toNatClampNeg = some r := by rw [ej, tn_O (by omega)]; exact g2
  rw [if_pos c1, if_pos c2, g1, g2, asN_s, asN_s] at cs0
  obtain ⟨-, -, hc, hT, hT4, hS, hs4, hH, hH2, -⟩ := hQ.1
  have hNl := NJ_le hQ.2.2.2.2.1 hjW H
  obtain ⟨ν1, e1, f1, b1⟩ := l_80 d hY.2.2 hNl 7 0 ν rfl hQ hC
  have hb1 : b01 (gI ν1 50 0) = true := by rw [b1]; exact hb
  have hQ1 := hQ.fr f1 hb1
  have r47 := f1.rowS (q := 47) rfl
  obtain ⟨ν2, e2, f2, b2⟩ := l_170 (d + 1) (gI ν 47) hjW 7 0 ν1 rfl r47 hQ1 (hY.of r47)
  refine ⟨fiF (fun k => suN cs T st H ts (NJ (gI ν 47) H j + k)) 7 0, ν1, ν2, cs0.trans ?_, (md0 hQ1).trans ?_, f1, f2, b2⟩
  · rw [e_80_5]
    refine (hf_any (d + 4) hR hH (by omega) _).trans ?_
    rw [eN]
    refine (e_80_6 ..).trans ?_
    exact e1
  · rw [c1, c2, if_pos (show (true && true) = true from rfl), ey, ej]
    exact e2
