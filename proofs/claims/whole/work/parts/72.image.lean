/-! image, undo -/
theorem faln {a b : MM} (h : aln a = aln b) : aln (fx a) = aln (fx b) := by
  funext q
  show nxt _ (aln a q) = nxt _ (aln b q)
  rw [h]
theorem WP.cp {ν ν' : MM} (f : Gr ν ν') (h : Fsh ν) {w tp sy wy row w' tp' sy' wy' row' A T st H n m C S W : Nat} {ht hs : Int32} {cs : List Cl} (e1 : ∀ k, (k = 1 ∨ k = 3 ∨ k = 5 ∨ (7 ≤ k ∧ k ≤ 14)) → gI ν' w' k = gI ν w k) (e2 : ∀ i, i < 100 → gI ν' tp' i = gI ν tp i) (e3 : ∀ k, k < 1562 → gI ν' row' k = gI ν row k) (r1 : gR ν' w' 2 = gR ν w 2) (r2 : ∀ k, k < 5 → gR ν' sy' k = gR ν sy k) (r3 : ∀ k, k < 5 → gR ν' wy' k = gR ν wy k) (g : WP ν w tp sy wy row A T st H n m C S W ht hs cs) : WP ν' w' tp' sy' wy' row' A T st H n m C S W ht hs cs := by
  obtain ⟨a1, a2, a3, a4, a5, a6⟩ := g
  have s3 := a5.2.2.1
  have w3 := a6.2.2.1
  exact ⟨a1.g2 (fun k h1 h2 => e1 k (by omega)) (e3 0 (by omega)) (fun k h1 h2 => e3 k (by omega)), a2.g2 (e1 1 (by omega)) e2 (e3 5 (by omega)) (fun k h1 h2 => e3 k (by omega)), a3.g2 (e1 13 (by omega)) (e1 14 (by omega)) (e3 4 (by omega)) (fun k h1 h2 => e3 k (by omega)), a4.g2 f h (e1 3 (by omega)) r1 (e3 3 (by omega)) (e3 6 (by omega)) (fun k h1 h2 => e3 k h2), a5.g2 f h (e1 5 (by omega)) (fun k hk => r2 k (by omega)) (e3 2 (by omega)) (fun k h1 h2 => e3 k h2), a6.g2 f h (e1 7 (by omega)) (fun k hk => r3 k (by omega)) (e3 1 (by omega)) (fun k h1 h2 => e3 k (by omega))⟩
theorem Cpd.gr {ν ν' : MM} {w tp sy wy w2 tp2 sy2 wy2 : Nat} (h : Cpd ν ν' w tp sy wy w2 tp2 sy2 wy2) (hw : w2 < 57) (ht : tp2 < 57) (hs : sy2 < 57) (hy : wy2 < 57) : Gr ν ν' := by
  obtain ⟨-, -, -, -, h5, h6, h7, h8, h9, -⟩ := h
  refine ⟨Nat.le_of_eq h9.symm, fun q _ => ⟨?_, ?_, fun hq => ⟨funext fun k => h5 q k (by omega) (by omega), funext fun k => ?_⟩⟩⟩
  · show nxt _ (shp ν' q) = nxt _ (shp ν q)
    rw [h7]
  · show nxt _ (aln ν' q) = nxt _ (aln ν q)
    rw [h8]
  · rw [gR_fx _ _ hq, gR_fx _ _ hq, h6 q k (by omega) (by omega) (by omega)]
theorem Cpd.fsh {ν ν' : MM} {w tp sy wy w2 tp2 sy2 wy2 : Nat} (h : Cpd ν ν' w tp sy wy w2 tp2 sy2 wy2) (g : Fsh ν) : Fsh ν' := by
  obtain ⟨-, -, -, -, -, -, h7, h8, h9, -⟩ := h
  intro q hq
  rw [h7]
  exact g q (by rw [← h9]; exact hq)
theorem Slt.cp {ν ν' : MM} (f : Gr ν ν') (h : Fsh ν) {sy wy sy' wy' : Nat} (e : ∀ k, k < 5 → gR ν' sy' k = gR ν sy k ∧ gR ν' wy' k = gR ν wy k) (g : Slt ν sy wy) : Slt ν' sy' wy' := g.gr f h (fun k hk => (e k hk).1) (fun k hk => (e k hk).2)
def P48 (q _ : Nat) : Bool := Nat.beq q 48
theorem l_193 (d : Nat) : ∀ (r i : Nat) (ν : MM), i + r = 1562 → ∃ ν', ev d 193 1 [.ref 46, .int (Int32.ofNat i)] [] (fx ν) = ev d 193 3 [.ref 46] [] (fx ν') ∧ Fr P48 Q0 ν ν' ∧ (∀ k, i ≤ k → k < 1562 → gI ν' 48 k = gI ν 47 k) ∧ ∀ k, k < i → gI ν' 48 k = gI ν 48 k
  | 0, i, ν, hi => ⟨ν, by rw [e_193_1, if_pos (by rw [show i = 1562 by omega]; decide)], Fr.rf, fun k h1 h2 => absurd h2 (by omega), fun _ _ => rfl⟩
  | r + 1, i, ν, hi => by
    obtain ⟨ν', e, f, g1, g2⟩ := l_193 d r (i + 1) (sI ν 48 i (gI ν 47 i)) (by omega)
    have le : ((1562 : Int32) ≤ Int32.ofNat i) = (1562 ≤ i) := O_le (a := 1562) (by decide) (by omega)
    refine ⟨ν', ?_, (Fr.wI _ rfl).tr f, fun k h1 h2 => ?_, fun k h1 => ?_⟩
    · rw [e_193_1, if_neg (by rw [le]; omega), e_193_2, inb_O (by omega) (by omega), gd_t, gd_t, tn_O (by omega), O_succ]
      exact e
    · by_cases c : k = i
      · rw [c, g2 i (by omega), gI_sI, if_pos ⟨rfl, rfl⟩]
      · rw [g1 k (by omega) h2, gI_sI, if_neg (by omega)]
    · rw [g2 k (by omega), gI_sI, if_neg (by omega)]
def P47 (q _ : Nat) : Bool := Nat.beq q 47
theorem l_194 (d : Nat) : ∀ (r i : Nat) (ν : MM), i + r = 1562 → ∃ ν', ev d 194 3 [.ref 46, .int (Int32.ofNat i)] [] (fx ν) = ev d 194 5 [.ref 46] [] (fx ν') ∧ Fr P47 Q0 ν ν' ∧ (∀ k, i ≤ k → k < 1562 → gI ν' 47 k = gI ν 48 k) ∧ ∀ k, k < i → gI ν' 47 k = gI ν 47 k
  | 0, i, ν, hi => ⟨ν, by rw [e_194_3, if_pos (by rw [show i = 1562 by omega]; decide)], Fr.rf, fun k h1 h2 => absurd h2 (by omega), fun _ _ => rfl⟩
  | r + 1, i, ν, hi => by
    obtain ⟨ν', e, f, g1, g2⟩ := l_194 d r (i + 1) (sI ν 47 i (gI ν 48 i)) (by omega)
    have le : ((1562 : Int32) ≤ Int32.ofNat i) = (1562 ≤ i) := O_le (a := 1562) (by decide) (by omega)
    refine ⟨ν', ?_, (Fr.wI _ rfl).tr f, fun k h1 h2 => ?_, fun k h1 => ?_⟩
    · rw [e_194_3, if_neg (by rw [le]; omega), e_194_4, inb_O (by omega) (by omega), gd_t, gd_t, tn_O (by omega), O_succ]
      exact e
    · by_cases c : k = i
      · rw [c, g2 i (by omega), gI_sI, if_pos ⟨rfl, rfl⟩]
      · rw [g1 k (by omega) h2, gI_sI, if_neg (by omega)]
    · rw [g2 k (by omega), gI_sI, if_neg (by omega)]
theorem i_image (d : Nat) {ν : MM} (hI : Inv ν) : CI (fun μ => ev (d + 1) 101 0 [.ref 28] [] (fx μ)) (fun μ => ev (d + 1) 193 0 [.ref 46] [] (fx μ)) ν := by
  have hI' := hI
  obtain ⟨hW, ⟨b, f1, f2, f3⟩, hb, ⟨tn, t1, t2, t3, t4⟩, hS, hF, sl1, sl2, tb1, tb2⟩ := hI'
  have hW' := hW
  obtain ⟨A, T, st, H, n, m, C, S, W, ht, hs, cs, hP⟩ := hW'
  obtain ⟨ν', e48, cp⟩ := s_48 d hP.2.2.2.1.1.1 tb1 sl1
  have grA := cp.gr (by decide) (by decide) (by decide) (by decide)
  have cp' := cp
  obtain ⟨c1, c2, c3, c4, c5, c6, c7, c8, c9, c10⟩ := cp'
  obtain ⟨ν1, hν1⟩ : ∃ ν1 : MM, ν1 = sI ν' 28 6 1 := ⟨_, rfl⟩
  have k1 : ∀ q k, ¬ (q = 28 ∧ k = 6) → gI ν1 q k = gI ν' q k := fun q k h => by rw [hν1, gI_sI, if_neg h]
  have k2 : gI ν1 28 6 = 1 := by rw [hν1, gI_sI, if_pos ⟨rfl, rfl⟩]
  have k3 : gR ν1 = gR ν' ∧ shp ν1 = shp ν' ∧ aln ν1 = aln ν' ∧ msz ν1 = msz ν' ∧ msl ν1 = msl ν' := by rw [hν1]; exact ⟨rfl, rfl, rfl, rfl, rfl⟩
  obtain ⟨ν2', e193, f193, g193, -⟩ := l_193 (d + 1) 1562 0 ν1 rfl
  obtain ⟨ν2, hν2⟩ : ∃ ν2 : MM, ν2 = sI ν2' 46 3 1 := ⟨_, rfl⟩
  have m1 : ∀ q k, ¬ (q = 46 ∧ k = 3) → gI ν2 q k = gI ν2' q k := fun q k h => by rw [hν2, gI_sI, if_neg h]
  have m2 : gI ν2 46 3 = 1 := by rw [hν2, gI_sI, if_pos ⟨rfl, rfl⟩]
  have m3 : gR ν2 = gR ν2' ∧ shp ν2 = shp ν2' ∧ aln ν2 = aln ν2' ∧ msz ν2 = msz ν2' ∧ msl ν2 = msl ν2' := by rw [hν2]; exact ⟨rfl, rfl, rfl, rfl, rfl⟩
  have o2 : ∀ q k, q ≠ 48 → gI ν2' q k = gI ν1 q k := fun q k h => f193.rI q k (beq_n h)
  have oo : ∀ q k, q ≠ 34 → q ≠ 35 → q ≠ 48 → ¬ (q = 28 ∧ k = 6) → ¬ (q = 46 ∧ k = 3) → gI ν2 q k = gI ν q k := fun q k h1 h2 h3 h4 h5 => by rw [m1 q k h5, o2 q k h3, k1 q k h4, c5 q k h1 h2]
  have ow : ∀ k, gI ν2 34 k = gI ν' 34 k := fun k => by rw [m1 _ _ (by omega), o2 _ _ (by decide), k1 _ _ (by omega)]
  have ot : ∀ k, gI ν2 35 k = gI ν' 35 k := fun k => by rw [m1 _ _ (by omega), o2 _ _ (by decide), k1 _ _ (by omega)]
  have orw : ∀ k, k < 1562 → gI ν2 48 k = gI ν 47 k := fun k hk => by rw [m1 _ _ (by omega), g193 k (by omega) hk, k1 _ _ (by omega), c5 _ _ (by decide) (by decide)]
  have oR : ∀ q k, gR ν2 q k = gR ν' q k := fun q k => by rw [m3.1, f193.rR, k3.1]
  have s2 : shp ν2 = shp ν := by rw [m3.2.1, f193.1, k3.2.1, c7]
  have a2 : aln ν2 = aln ν := by rw [m3.2.2.1, f193.2.1, k3.2.2.1, c8]
  have z2 : msz ν2 = msz ν := by rw [m3.2.2.2.1, f193.2.2.1, k3.2.2.2.1, c9]
  have l2 : msl ν2 = msl ν := by rw [m3.2.2.2.2, f193.2.2.2.1, k3.2.2.2.2, c10]
  have gr : Gr ν ν2 := by
    refine ⟨Nat.le_of_eq z2.symm, fun q _ => ⟨?_, ?_, fun hq => ⟨funext fun k => oo q k (by omega) (by omega) (by omega) (by omega) (by omega), funext fun k => ?_⟩⟩⟩
    · show nxt _ (shp ν2 q) = nxt _ (shp ν q)
      rw [s2]
    · show nxt _ (aln ν2 q) = nxt _ (aln ν q)
      rw [a2]
    · rw [gR_fx _ _ hq, gR_fx _ _ hq, oR, c6 q k (by omega) (by omega) (by omega)]
  have row29 : gI ν2 29 = gI ν 29 := funext fun k => oo _ _ (by decide) (by decide) (by decide) (by omega) (by omega)
  have row30 : gI ν2 30 = gI ν 30 := funext fun k => oo _ _ (by decide) (by decide) (by decide) (by omega) (by omega)
  have row47 : gI ν2 47 = gI ν 47 := funext fun k => oo _ _ (by decide) (by decide) (by decide) (by omega) (by omega)
  refine ⟨Int32.ofNat T, ν1, ν2, ?_, ?_, ⟨?_, ⟨true, ?_, ?_, fun _ => ?_⟩, ?_, ⟨tn, t1, ?_, ?_, fun i hi => ?_⟩, fun i hi => ⟨?_, fun j => ?_⟩, fun q hq => ?_, ?_, ?_, fun i hi => ?_, fun i hi => ?_⟩, ⟨by omega, by omega, (gr.2 26 (by omega)).2.1⟩, ?_, ?_, ?_⟩
  · show ev (d + 1) 101 0 [.ref 28] [] (fx ν) = _
    rw [e_101_0, e48, bnd_0, app0]
    refine (e_101_1 ..).trans ?_
    rw [gI_sI, if_neg (by omega), c1 8 (by omega), hP.1.1.1, hν1]
  · show ev (d + 1) 193 0 [.ref 46] [] (fx ν1) = _
    rw [e_193_0]
    refine Eq.trans e193 ?_
    rw [e_193_3, ← hν2, oo _ _ (by decide) (by decide) (by decide) (by omega) (by omega), hP.1.1.2.1]
  · exact hW.gr gr hF row29 row30 row47 (by rw [oR, c6 _ _ (by decide) (by decide) (by decide)]) (fun k _ => by rw [oR, c6 _ _ (by decide) (by decide) (by decide)]) (fun k _ => by rw [oR, c6 _ _ (by decide) (by decide) (by decide)])
  · rw [m1 _ _ (by omega), o2 _ _ (by decide), k2]
    rfl
  · rw [m2]
    rfl
  · exact ⟨A, T, st, H, n, m, C, S, W, ht, hs, cs, hP.cp gr hF (fun k hk => by rw [ow, c1 k hk]) (fun i hi => by rw [ot, c2 i hi]) orw (by rw [oR, c3]) (fun k hk => by rw [oR, (c4 k hk).1]) (fun k hk => by rw [oR, (c4 k hk).2])⟩
  · rw [oo _ _ (by decide) (by decide) (by decide) (by omega) (by omega)]
    exact hb
  · rw [oo _ _ (by decide) (by decide) (by decide) (by omega) (by omega)]
    exact t2
  · rw [oo _ _ (by decide) (by decide) (by decide) (by omega) (by omega)]
    exact t3
  · rw [oo _ _ (by decide) (by decide) (by decide) (by omega) (by omega), oo _ _ (by decide) (by decide) (by decide) (by omega) (by omega)]
    exact t4 i hi
  · rw [oo _ _ (by omega) (by omega) (by omega) (by omega) (by omega)]
    exact (hS i hi).1
  · rw [oo _ _ (by omega) (by omega) (by omega) (by omega) (by omega)]
    exact (hS i hi).2 j
  · rw [s2]
    exact hF q (by omega)
  · exact sl1.cp gr hF (fun k _ => ⟨by rw [oR, c6 _ _ (by decide) (by decide) (by decide)], by rw [oR, c6 _ _ (by decide) (by decide) (by decide)]⟩)
  · exact sl1.cp gr hF (fun k hk => ⟨by rw [oR, (c4 k hk).1], by rw [oR, (c4 k hk).2]⟩)
  · rw [row30]
    exact tb1 i hi
  · rw [ot, c2 i hi]
    exact tb1 i hi
  · exact funext fun k => by rw [k1 _ _ (by omega), c5 _ _ (by decide) (by decide)]
  · exact funext fun k => oo _ _ (by decide) (by decide) (by decide) (by omega) (by omega)
  · rw [faln (k3.2.2.1.trans c8)]
theorem i_undo (d : Nat) {ν : MM} (hI : Inv ν) : CI (fun μ => ev (d + 1) 102 0 [.ref 28] [] (fx μ)) (fun μ => ev (d + 1) 194 0 [.ref 46] [] (fx μ)) ν := by
  have hI' := hI
  obtain ⟨hW, ⟨b, f1, f2, f3⟩, hb, ⟨tn, t1, t2, t3, t4⟩, hS, hF, sl1, sl2, tb1, tb2⟩ := hI'
  cases b with
  | false =>
    refine QI.c hI ⟨-3, ν, ν, ?_, ?_, Fr.rf, Fr.rf, hb⟩
    · show ev (d + 1) 102 0 [.ref 28] [] (fx ν) = _
      rw [e_102_0, f1, if_pos bI_f, e_102_1]
    · show ev (d + 1) 194 0 [.ref 46] [] (fx ν) = _
      rw [e_194_0, f2, if_pos bI_f, e_194_1]
  | true =>
  have hW0 := hW
  have hW := f3 rfl
  have hW' := hW
  obtain ⟨A, T, st, H, n, m, C, S, W, ht, hs, cs, hP⟩ := hW'
  obtain ⟨ν', e48, cp⟩ := s_48a d hP.2.2.2.1.1.1 tb2 sl2
  have grA := cp.gr (by decide) (by decide) (by decide) (by decide)
  have cp' := cp
  obtain ⟨c1, c2, c3, c4, c5, c6, c7, c8, c9, c10⟩ := cp'
  obtain ⟨ν2, e194, f194, g194, -⟩ := l_194 (d + 1) 1562 0 ν' rfl
  have o2 : ∀ q k, q ≠ 47 → gI ν2 q k = gI ν' q k := fun q k h => f194.rI q k (beq_n h)
  have oo : ∀ q k, q ≠ 29 → q ≠ 30 → q ≠ 47 → gI ν2 q k = gI ν q k := fun q k h1 h2 h3 => by rw [o2 q k h3, c5 q k h1 h2]
  have ow : ∀ k, gI ν2 29 k = gI ν' 29 k := fun k => o2 _ _ (by decide)
  have ot : ∀ k, gI ν2 30 k = gI ν' 30 k := fun k => o2 _ _ (by decide)
  have orw : ∀ k, k < 1562 → gI ν2 47 k = gI ν 48 k := fun k hk => by rw [g194 k (by omega) hk, c5 _ _ (by decide) (by decide)]
  have oR : ∀ q k, gR ν2 q k = gR ν' q k := fun q k => by rw [f194.rR]
  have s2 : shp ν2 = shp ν := by rw [f194.1, c7]
  have a2 : aln ν2 = aln ν := by rw [f194.2.1, c8]
  have z2 : msz ν2 = msz ν := by rw [f194.2.2.1, c9]
  have l2 : msl ν2 = msl ν := by rw [f194.2.2.2.1, c10]
  have gr : Gr ν ν2 := by
    refine ⟨Nat.le_of_eq z2.symm, fun q _ => ⟨?_, ?_, fun hq => ⟨funext fun k => oo q k (by omega) (by omega) (by omega), funext fun k => ?_⟩⟩⟩
    · show nxt _ (shp ν2 q) = nxt _ (shp ν q)
      rw [s2]
    · show nxt _ (aln ν2 q) = nxt _ (aln ν q)
      rw [a2]
    · rw [gR_fx _ _ hq, gR_fx _ _ hq, oR, c6 q k (by omega) (by omega) (by omega)]
  have row34 : gI ν2 34 = gI ν 34 := funext fun k => oo _ _ (by decide) (by decide) (by decide)
  have row35 : gI ν2 35 = gI ν 35 := funext fun k => oo _ _ (by decide) (by decide) (by decide)
  have row48 : gI ν2 48 = gI ν 48 := funext fun k => oo _ _ (by decide) (by decide) (by decide)
  refine ⟨Int32.ofNat T, ν', ν2, ?_, ?_, ⟨?_, ⟨true, ?_, ?_, fun _ => ?_⟩, ?_, ⟨tn, t1, ?_, ?_, fun i hi => ?_⟩, fun i hi => ⟨?_, fun j => ?_⟩, fun q hq => ?_, ?_, ?_, fun i hi => ?_, fun i hi => ?_⟩, ⟨by omega, by omega, (gr.2 26 (by omega)).2.1⟩, ?_, ?_, ?_⟩
  · show ev (d + 1) 102 0 [.ref 28] [] (fx ν) = _
    rw [e_102_0, f1, if_neg (by decide), e_102_2, e48, bnd_0, app0]
    refine (e_102_3 ..).trans ?_
    rw [c1 8 (by omega), hP.1.1.1]
  · show ev (d + 1) 194 0 [.ref 46] [] (fx ν') = _
    have f2' : gI ν' 46 3 = 1 := by rw [c5 _ _ (by decide) (by decide), f2]; rfl
    rw [e_194_0, f2', if_neg (by decide), e_194_2]
    refine Eq.trans e194 ?_
    rw [e_194_5, orw 0 (by omega), hP.1.1.2.1]
  · exact ⟨A, T, st, H, n, m, C, S, W, ht, hs, cs, hP.cp gr hF (fun k hk => by rw [ow, c1 k hk]) (fun i hi => by rw [ot, c2 i hi]) orw (by rw [oR, c3]) (fun k hk => by rw [oR, (c4 k hk).1]) (fun k hk => by rw [oR, (c4 k hk).2])⟩
  · rw [oo _ _ (by decide) (by decide) (by decide), f1]
  · rw [oo _ _ (by decide) (by decide) (by decide), f2]
  · exact hW.gr gr hF row34 row35 row48 (by rw [oR, c6 _ _ (by decide) (by decide) (by decide)]) (fun k _ => by rw [oR, c6 _ _ (by decide) (by decide) (by decide)]) (fun k _ => by rw [oR, c6 _ _ (by decide) (by decide) (by decide)])
  · rw [oo _ _ (by decide) (by decide) (by decide)]
    exact hb
  · rw [oo _ _ (by decide) (by decide) (by decide)]
    exact t2
  · rw [oo _ _ (by decide) (by decide) (by decide)]
    exact t3
  · rw [oo _ _ (by decide) (by decide) (by decide), oo _ _ (by decide) (by decide) (by decide)]
    exact t4 i hi
  · rw [oo _ _ (by omega) (by omega) (by omega)]
    exact (hS i hi).1
  · rw [oo _ _ (by omega) (by omega) (by omega)]
    exact (hS i hi).2 j
  · rw [s2]
    exact hF q (by omega)
  · exact sl2.cp gr hF (fun k hk => ⟨by rw [oR, (c4 k hk).1], by rw [oR, (c4 k hk).2]⟩)
  · exact sl2.cp gr hF (fun k _ => ⟨by rw [oR, c6 _ _ (by decide) (by decide) (by decide)], by rw [oR, c6 _ _ (by decide) (by decide) (by decide)]⟩)
  · rw [ot, c2 i hi]
    exact tb2 i hi
  · rw [row35]
    exact tb2 i hi
  · exact funext fun k => c5 _ _ (by decide) (by decide)
  · exact funext fun k => oo _ _ (by decide) (by decide) (by decide)
  · rw [faln c8]
