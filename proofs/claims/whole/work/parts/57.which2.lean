def bsF (P : Nat → Nat) (C : Nat → Int32) : Nat → Option Nat
  | 0 => none
  | i + 1 => match bsF P C i with
    | none => some i
    | some b => if btr P C i b = true then some i else some b
def bsX (o : Option Nat) : Int32 := match o with
  | none => -5
  | some b => Int32.ofNat b
theorem bsF_lt (P : Nat → Nat) (C : Nat → Int32) : ∀ (i : Nat) {b : Nat}, bsF P C i = some b → b < i
  | 0, b, h => by cases h
  | i + 1, b, h => by
    unfold bsF at h
    cases hq : bsF P C i with
    | none =>
      rw [hq] at h
      have h : some i = some b := h
      have := Option.some.inj h
      omega
    | some b' =>
      rw [hq] at h
      have h : (if btr P C i b' = true then some i else some b') = some b := h
      have := bsF_lt P C i hq
      split at h
      · have := Option.some.inj h; omega
      · have := Option.some.inj h; omega
def mstP (P : Nat → Nat) (o : Option Nat) : Nat := match o with
  | none => 0
  | some b => P b
def lstC (C : Nat → Int32) (o : Option Nat) : Int32 := match o with
  | none => 0
  | some b => C b
theorem neq5 : ∀ b, b < 5 → Int32.ofNat b ≠ -5 := by decide
theorem l_78 (d : Nat) {A T st H W S c : Nat} {ht hs : Int32} {cs : List Cl} {ts : List Int32} (hts : okTs 5 ts) (f : Nat → Int32) : ∀ (m i : Nat) (ν : MM), i + m = W → gI ν 47 = f → QX ν A T st H W S ht hs cs → ClA ν c (3, 0, ts) → ∃ ν', ev (d + 5) 78 4 [.ref 28, .ref c, .int (bsX (bsF (PJ f cs T st H ts) (CJ f cs H) i)), .long (Int64.ofNat (mstP (PJ f cs T st H ts) (bsF (PJ f cs T st H ts) (CJ f cs H) i))), .int (lstC (CJ f cs H) (bsF (PJ f cs T st H ts) (CJ f cs H) i)), .int (Int32.ofNat i)] [] (fx ν) = some (some (.int (bsX (bsF (PJ f cs T st H ts) (CJ f cs H) W))), fx ν') ∧ Fr PS QS ν ν' ∧ gI ν' = gI ν
  | 0, i, ν, hi, hf, hQ, hC => by
    obtain ⟨h1, h2, h3, h4⟩ := hQ.2.2.2.2.1
    refine ⟨ν, ?_, Fr.rf, rfl⟩
    rw [e_78_4, h1, if_pos (by rw [O_le (by omega) (by omega)]; omega), e_78_15, show i = W by omega]
  | m + 1, i, ν, hi, hf, hQ, hC => by
    obtain ⟨h1, h2, h3, h4⟩ := hQ.2.2.2.2.1
    obtain ⟨r, ν1, g1, e1, f1, gg, e2⟩ := partQ (d := d) hQ (show i < W by omega) hC hts
    have hc := hQ.2.1.2.1
    have hT4 := hQ.2.1.2.2.2.2.2.2
    have hPl : ∀ {j : Nat}, j < W → PJ f cs T st H ts j ≤ 281474976710656 := fun {j} hj => (Mbound hc hT4 st H (by rw [← hf]; exact NJ_le hQ.2.2.2.2.1 hj H) (fun r => sayT ts T (H + NJ f H j) (Int32.ofNat r))).2.2.2.2.2
    have hb1 : b01 (gI ν1 50 0) = true := by rw [gg]; exact hQ.2.1.2.2.1
    obtain ⟨ν', e3, f3, g3⟩ := l_78 d hts f m (i + 1) ν1 (by omega) (by rw [gg]; exact hf) (hQ.fr f1 hb1) (hC.frS f1)
    refine ⟨ν', ?_, f1.tr f3, g3.trans gg⟩
    have e2 := e2 (d + 1)
    rw [hf] at e1 e2
    obtain ⟨-, r51, -⟩ := qR (d + 4) hQ
    rw [e_78_4, h1, if_neg (by rw [O_le (by omega) (by omega)]; omega), e_78_5, r51, bnd_3, app1, if_pos (by rw [okN_O (by omega) (by omega)]; exact decide_eq_true (by omega)), tn_O (by omega), g1]
    refine (e_78_6 ..).trans ?_
    rw [asN_s, e_78_7, e1, bnd_2, app1]
    refine (e_78_8 ..).trans ?_
    rw [e2, bnd_1, app1]
    refine (e_78_9 ..).trans ?_
    have step : bsF (PJ f cs T st H ts) (CJ f cs H) (i + 1) = match bsF (PJ f cs T st H ts) (CJ f cs H) i with
      | none => some i
      | some b => if btr (PJ f cs T st H ts) (CJ f cs H) i b = true then some i else some b := rfl
    have hlt := fun b => bsF_lt (PJ f cs T st H ts) (CJ f cs H) i (b := b)
    rw [step] at e3
    cases hq : bsF (PJ f cs T st H ts) (CJ f cs H) i with
    | none =>
      rw [hq] at e3
      rw [if_pos (show bsX none = -5 from rfl), e_78_13, e_78_14, O_succ]
      exact e3
    | some b =>
      have hb := hlt b hq
      rw [hq] at e3
      have hPi := hPl (show i < W by omega)
      have hPb := hPl (show b < W by omega)
      rw [if_neg (show ¬ bsX (some b) = -5 from neq5 b (by omega)), e_78_10, e_78_11, e_78_12, e_78_13, e_78_14, e_78_14, O_succ]
      show (if 0 < lg_cmp (Int64.ofNat (PJ f cs T st H ts i)) (Int64.ofNat (PJ f cs T st H ts b)) then _ else if lg_cmp (Int64.ofNat (PJ f cs T st H ts i)) (Int64.ofNat (PJ f cs T st H ts b)) = 0 then if CJ f cs H b ≤ CJ f cs H i then _ else _ else _) = _
      have lt : (0 < lg_cmp (Int64.ofNat (PJ f cs T st H ts i)) (Int64.ofNat (PJ f cs T st H ts b))) = (PJ f cs T st H ts b < PJ f cs T st H ts i) := by
        apply propext
        rw [lg_cmp_gt]
        exact Int64.ofNat_lt_iff_lt (by omega) (by omega)
      have lq : (lg_cmp (Int64.ofNat (PJ f cs T st H ts i)) (Int64.ofNat (PJ f cs T st H ts b)) = 0) = (PJ f cs T st H ts i = PJ f cs T st H ts b) := by
        rw [← L_eq (a := PJ f cs T st H ts i) (b := PJ f cs T st H ts b) (by omega) (by omega)]
        exact propext (lg_cmp_eq ..)
      by_cases cl : PJ f cs T st H ts b < PJ f cs T st H ts i
      · have hbt : btr (PJ f cs T st H ts) (CJ f cs H) i b = true := by unfold btr; rw [decide_eq_true cl]; rfl
        rw [if_pos (by rw [lt]; exact cl)]
        have e3 := e3
        rw [show (match (some b : Option Nat) with | none => some i | some b => if btr (PJ f cs T st H ts) (CJ f cs H) i b = true then some i else some b) = if btr (PJ f cs T st H ts) (CJ f cs H) i b = true then some i else some b from rfl, if_pos hbt] at e3
        exact e3
      · rw [if_neg (by rw [lt]; exact cl)]
        by_cases ce : PJ f cs T st H ts i = PJ f cs T st H ts b
        · rw [if_pos (by rw [lq]; exact ce)]
          by_cases cc : CJ f cs H b ≤ CJ f cs H i
          · have hbt : ¬ btr (PJ f cs T st H ts) (CJ f cs H) i b = true := by
              unfold btr
              rw [decide_eq_false cl, decide_eq_true ce, decide_eq_false (Int32.not_lt.mpr cc)]
              decide
            rw [if_pos cc]
            rw [show (match (some b : Option Nat) with | none => some i | some b => if btr (PJ f cs T st H ts) (CJ f cs H) i b = true then some i else some b) = if btr (PJ f cs T st H ts) (CJ f cs H) i b = true then some i else some b from rfl, if_neg hbt] at e3
            exact e3
          · have hbt : btr (PJ f cs T st H ts) (CJ f cs H) i b = true := by
              unfold btr
              rw [decide_eq_false cl, decide_eq_true ce, decide_eq_true (Int32.not_le.mp cc)]
              rfl
            rw [if_neg cc]
            rw [show (match (some b : Option Nat) with | none => some i | some b => if btr (PJ f cs T st H ts) (CJ f cs H) i b = true then some i else some b) = if btr (PJ f cs T st H ts) (CJ f cs H) i b = true then some i else some b from rfl, if_pos hbt] at e3
            exact e3
        · have hbt : ¬ btr (PJ f cs T st H ts) (CJ f cs H) i b = true := by
            unfold btr
            rw [decide_eq_false cl, decide_eq_false ce]
            simp
          rw [if_neg (by rw [lq]; exact ce)]
          rw [show (match (some b : Option Nat) with | none => some i | some b => if btr (PJ f cs T st H ts) (CJ f cs H) i b = true then some i else some b) = if btr (PJ f cs T st H ts) (CJ f cs H) i b = true then some i else some b from rfl, if_neg hbt] at e3
          exact e3
theorem l_164 (d : Nat) {A T st H W S y : Nat} {ht hs : Int32} {cs : List Cl} {ts : List Int32} (f : Nat → Int32) : ∀ (m i : Nat) (ν : MM), i + m = W → gI ν 47 = f → QX ν A T st H W S ht hs cs → MY ν y ts → ∃ ν', ev (d + 7) 164 4 [.ref 46, .int (Int32.ofNat y), .int (bsX (bsF (PJ f cs T st H ts) (CJ f cs H) i)), .int (Int32.ofNat i)] [] (fx ν) = some (some (.int (bsX (bsF (PJ f cs T st H ts) (CJ f cs H) W))), fx ν') ∧ Fr PS QS ν ν' ∧ b01 (gI ν' 50 0) = true
  | 0, i, ν, hi, hf, hQ, hY => by
    obtain ⟨h1, h2, h3, h4⟩ := hQ.2.2.2.2.1
    refine ⟨ν, ?_, Fr.rf, hQ.2.1.2.2.1⟩
    rw [e_164_4, h2, if_pos (by rw [O_le (by omega) (by omega)]; omega), e_164_11, show i = W by omega]
  | m + 1, i, ν, hi, hf, hQ, hY => by
    obtain ⟨h1, h2, h3, h4⟩ := hQ.2.2.2.2.1
    have step : bsF (PJ f cs T st H ts) (CJ f cs H) (i + 1) = match bsF (PJ f cs T st H ts) (CJ f cs H) i with
      | none => some i
      | some b => if btr (PJ f cs T st H ts) (CJ f cs H) i b = true then some i else some b := rfl
    have hlt := fun b => bsF_lt (PJ f cs T st H ts) (CJ f cs H) i (b := b)
    cases hq : bsF (PJ f cs T st H ts) (CJ f cs H) i with
    | none =>
      obtain ⟨ν', e3, f3, g3⟩ := l_164 d f m (i + 1) ν (by omega) hf hQ hY
      refine ⟨ν', ?_, f3, g3⟩
      rw [step, hq] at e3
      rw [e_164_4, h2, if_neg (by rw [O_le (by omega) (by omega)]; omega), e_164_5]
      rw [if_pos (show bsX none = -5 from rfl), e_164_8, e_164_10, O_succ]
      exact e3
    | some b =>
      have hb := hlt b hq
      obtain ⟨ν1, e1, f1, q1, r1⟩ := m163 d hQ (a := i) (b := b) (by omega) (by omega) hY
      obtain ⟨ν', e3, f3, g3⟩ := l_164 d f m (i + 1) ν1 (by omega) (by rw [r1]; exact hf) q1 (hY.of r1)
      refine ⟨ν', ?_, f1.tr f3, g3⟩
      rw [step, hq] at e3
      rw [hf] at e1
      rw [show (match (some b : Option Nat) with | none => some i | some b => if btr (PJ f cs T st H ts) (CJ f cs H) i b = true then some i else some b) = if btr (PJ f cs T st H ts) (CJ f cs H) i b = true then some i else some b from rfl] at e3
      show ev (d + 7) 164 4 [.ref 46, .int (Int32.ofNat y), .int (Int32.ofNat b), .int (Int32.ofNat i)] [] (fx ν) = _
      rw [e_164_4, h2, if_neg (by rw [O_le (by omega) (by omega)]; omega), e_164_5, if_neg (neq5 b (by omega)), e_164_6, e1, bnd_1, app1]
      refine (e_164_7 ..).trans ?_
      rw [bI_0]
      by_cases hbt : btr (PJ f cs T st H ts) (CJ f cs H) i b = true
      · rw [if_pos hbt, e_164_8, e_164_10, O_succ]
        rw [if_pos hbt] at e3
        exact e3
      · rw [if_neg hbt, e_164_9, e_164_10, O_succ]
        rw [if_neg hbt] at e3
        exact e3
theorem q_which (d : Nat) {ν : MM} {A T st H W S : Nat} {ht hs : Int32} {cs : List Cl} (hQ : QX ν A T st H W S ht hs cs) (v1 : Int32) : QI (fun μ => ev (d + 7) 78 0 [.ref 28, .int v1] [] (fx μ)) (fun μ => ev (d + 7) 164 0 [.ref 46, .int v1] [] (fx μ)) ν := by
  obtain ⟨r50, -⟩ := qR (d + 6) hQ
  by_cases c1 : okN S v1 = true
  · obtain ⟨y, cc, ts, ey, g1, hC, hY⟩ := hQ.2.2.2.2.2.at c1
    obtain ⟨ν1, e1, f1, gg⟩ := l_78 (d + 2) hY.2.2 (gI ν 47) W 0 ν (by omega) rfl hQ hC
    have hb1 : b01 (gI ν1 50 0) = true := by rw [gg]; exact hQ.2.1.2.2.1
    have hQ1 := hQ.fr f1 hb1
    obtain ⟨ν2, e2, f2, b2⟩ := l_164 d (gI ν 47) W 0 ν1 (by omega) (by rw [gg]) hQ1 (hY.of (by rw [gg]))
    obtain ⟨-, -, r116, -⟩ := qR (d + 5) hQ1
    refine ⟨bsX (bsF (PJ (gI ν 47) cs T st H ts) (CJ (gI ν 47) cs H) W), ν1, ν2, ?_, ?_, f1, f2, b2⟩
    · show ev (d + 7) 78 0 [.ref 28, .int v1] [] (fx ν) = _
      rw [e_78_0, r50, bnd_3, app1, if_pos c1, g1]
      refine (e_78_1 ..).trans ?_
      rw [asN_s, e_78_3]
      exact e1
    · show ev (d + 7) 164 0 [.ref 46, .int v1] [] (fx ν1) = _
      rw [e_164_0, r116, bnd_1, app1]
      refine (e_164_1 ..).trans ?_
      rw [bI_0, if_pos c1, e_164_3, ey]
      exact e2
  · obtain ⟨-, -, r116, -⟩ := qR (d + 5) hQ
    refine ⟨-1, ν, ν, ?_, ?_, Fr.rf, Fr.rf, hQ.2.1.2.2.1⟩
    · show ev (d + 7) 78 0 [.ref 28, .int v1] [] (fx ν) = _
      rw [e_78_0, r50, bnd_3, app1, if_neg c1]
      refine (e_78_1 ..).trans ?_
      rw [asN_n, e_78_2]
    · show ev (d + 7) 164 0 [.ref 46, .int v1] [] (fx ν) = _
      rw [e_164_0, r116, bnd_1, app1]
      refine (e_164_1 ..).trans ?_
      rw [bI_0, if_neg c1, e_164_2]
