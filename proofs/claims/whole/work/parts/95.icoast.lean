/-! coast, saying: class and model -/
def I47 (ν μ : MM) (A : Nat) : Prop := ∀ k, k ≠ 2 → k ≠ 3 → k ≠ 5 → k ≠ 6 → k ≠ 152 + A → ¬ (162 + 140 * A ≤ k ∧ k < 302 + 140 * A) → gI μ 47 k = gI ν 47 k
theorem StA.of3 {ν ν' : MM} {S S' lo hi : Nat} (h : ∀ k, lo ≤ k → k < hi → gI ν' S' k = gI ν S k) : ∀ {cs : List Cl} {i : Nat}, lo ≤ i → i + tln cs ≤ hi → StA ν S i cs → StA ν' S' i cs
  | [], _, _, _, _ => trivial
  | c :: cs, i, hi', hl, g => by
    have hl : i + (c.2.2.length + 1 + tln cs) ≤ hi := hl
    exact ⟨g.1, fun j hj => by rw [h _ (by omega) (by omega)]; exact g.2.1 j hj, by rw [h _ (by omega) (by omega)]; exact g.2.2.1, StA.of3 h (by omega) (by omega) g.2.2.2⟩
theorem MCo.fm {ν μ : MM} {A : Nat} {cs : List Cl} (hA10 : A < 10) (hA : ∀ a, a < 5 → gI ν 47 6 = Int32.ofNat a → a ≠ A) (h6 : gI μ 47 6 = gI ν 47 6) (i : I47 ν μ A) (g : MCo ν 47 cs) : MCo μ 47 cs := by
  rcases g with ⟨h1, h2⟩ | ⟨a, h1, h2, h3, h4, h5⟩
  · exact Or.inl ⟨by rw [h6]; exact h1, h2⟩
  · have hn := hA a h1 h2
    exact Or.inr ⟨a, h1, by rw [h6]; exact h2, by rw [i _ (by omega) (by omega) (by omega) (by omega) (by omega) (by omega)]; exact h3, h4, StA.of3 (lo := 162 + 140 * a) (hi := 302 + 140 * a) (fun k k1 k2 => i k (by omega) (by omega) (by omega) (by omega) (by omega) (by omega)) (Nat.le_refl _) (by omega) h5⟩
theorem MSy.fm {ν μ : MM} {A k : Nat} {ts : List Int32} (hk : 5 + k ≠ A) (hA : A < 10) (hk5 : k < 5) (i : I47 ν μ A) (g : MSy ν 47 k ts) : MSy μ 47 k ts := by
  obtain ⟨h1, h2, h3, h4, h5⟩ := g
  exact ⟨by rw [i _ (by omega) (by omega) (by omega) (by omega) (by omega) (by omega)]; exact h1, h2, h3, h4, fun j hj => by rw [i _ (by omega) (by omega) (by omega) (by omega) (by omega) (by omega)]; exact h5 j hj⟩
theorem wr_rd {ν μ : MM} {B A T st H n m C S W : Nat} {ht hs : Int32} {cs : List Cl} (hP : WP ν 29 30 32 33 47 A T st H n m C S W ht hs cs) (gr : Gr ν μ) (hF : Fsh ν) (i29 : ∀ k, k ≠ 1 → k ≠ 3 → k ≠ 5 → gI μ 29 k = gI ν 29 k) (i1 : gI μ 29 1 = 0) (m5 : gI μ 47 5 = 0) (i : I47 ν μ B) (r33 : ∀ k, gR μ 33 k = gR ν 33 k) : Wst μ 29 47 T st H ht hs ∧ Wtp μ 29 30 47 0 ∧ Wto μ 29 47 m ∧ Wwy μ 29 33 47 W := by
  obtain ⟨p1, p2, p3, p4, p5, p6⟩ := hP
  refine ⟨p1.g2 (fun k h1 h2 => i29 k (by omega) (by omega) (by omega)) (i 0 (by omega) (by omega) (by omega) (by omega) (by omega) (by omega)) (fun k h1 h2 => i k (by omega) (by omega) (by omega) (by omega) (by omega) (by omega)), ⟨i1, m5, Nat.zero_le _, fun j hj => absurd hj (Nat.not_lt_zero j)⟩, p3.g2 (i29 13 (by omega) (by omega) (by omega)) (i29 14 (by omega) (by omega) (by omega)) (i 4 (by omega) (by omega) (by omega) (by omega) (by omega) (by omega)) (fun k h1 h2 => i k (by omega) (by omega) (by omega) (by omega) (by omega) (by omega)), p6.g2 gr hF (i29 7 (by omega) (by omega) (by omega)) (fun k _ => r33 k) (i 1 (by omega) (by omega) (by omega) (by omega) (by omega) (by omega)) (fun k h1 h2 => i k (by omega) (by omega) (by omega) (by omega) (by omega) (by omega))⟩
theorem Wco.kp {ν μ : MM} {B A C : Nat} {cs : List Cl} (hB : B < 10) (gr : Gr ν μ) (hF : Fsh ν) (hA : ∀ a, a < C → a ≠ B) (i3 : gI μ 29 3 = gI ν 29 3) (r2 : gR μ 29 2 = gR ν 29 2) (m3 : gI μ 47 3 = gI ν 47 3) (m6 : gI μ 47 6 = gI ν 47 6) (i : I47 ν μ B) (g : Wco ν 29 47 A C cs) : Wco μ 29 47 A C cs := by
  obtain ⟨⟨a1, a2, a3, a4⟩, a5, a6, a7, a8⟩ := g
  exact ⟨⟨by rw [r2]; exact a1, a2.gr gr hF, a3, a4.fm hB (fun a h1 h2 => hA a (a8 a h1 h2)) m6 i⟩, by rw [i3]; exact a5, by rw [m3]; exact a6, a7, by rw [m6]; exact a8⟩
theorem Wsy.kp {ν μ : MM} {B S : Nat} (gr : Gr ν μ) (hF : Fsh ν) (hB : B < 10) (hA : ∀ k, k < S → 5 + k ≠ B) (r32 : ∀ k, k < S → gR μ 32 k = gR ν 32 k) (i : I47 ν μ B) (g : Wsy ν 29 32 47 S) : ∀ k, k < S → ∃ (c : Nat) (ts : List Int32), gR μ 32 k = some c ∧ ClA μ c (3, 0, ts) ∧ MSy μ 47 k ts ∧ okTs 5 ts := by
  obtain ⟨a1, a2, a3, a4⟩ := g
  intro k hk
  obtain ⟨c, ts, b1, b2, b3, b4⟩ := a4 k hk
  exact ⟨c, ts, by rw [r32 k hk]; exact b1, b2.gr gr hF, b3.fm (hA k hk) hB (by omega) i, b4⟩
theorem tape_ch {ν : MM} {w row n : Nat} (h : Wtp ν w 30 row n) : ∃ ch, okTx ch n ∧ (∀ p, p < n → gI ν 30 p = Int32.ofNat (ch p)) ∧ ∀ p, p < n → gI ν row (52 + p) = Int32.ofNat (ch p) := by
  obtain ⟨t1, t2, t3, t4⟩ := h
  have q : ∀ p, p < n → (gI ν 30 p).toNatClampNeg < 128 ∧ gI ν 30 p = Int32.ofNat (gI ν 30 p).toNatClampNeg ∧ gI ν row (52 + p) = Int32.ofNat (gI ν 30 p).toNatClampNeg := fun p hp => by
    obtain ⟨b, b1, b2, b3⟩ := t4 p hp
    rw [b2, tn_O (by omega)]
    exact ⟨b1, rfl, b3⟩
  refine ⟨fun p => if p < n then (gI ν 30 p).toNatClampNeg else 128, ⟨t3, fun p => ⟨fun hp => ?_, fun hp => ?_⟩⟩, fun p hp => ?_, fun p hp => ?_⟩
  · show (if p < n then (gI ν 30 p).toNatClampNeg else 128) < 128
    rw [if_pos hp]; exact (q p hp).1
  · show (if p < n then (gI ν 30 p).toNatClampNeg else 128) = 128
    rw [if_neg (by omega)]
  · show gI ν 30 p = Int32.ofNat (if p < n then (gI ν 30 p).toNatClampNeg else 128)
    rw [if_pos hp]; exact (q p hp).2.1
  · show gI ν row (52 + p) = Int32.ofNat (if p < n then (gI ν 30 p).toNatClampNeg else 128)
    rw [if_pos hp]; exact (q p hp).2.2
theorem Inv.s {ν : MM} (h : Inv ν) : Str ν := h.2.2.2.2.1
theorem i_coast (d : Nat) {ν : MM} (hI : Inv ν) : CI (fun μ => ev (d + 28) 64 0 [.ref 28] [] (fx μ)) (fun μ => ev (d + 28) 131 0 [.ref 46] [] (fx μ)) ν := by
  have hI' := hI
  obtain ⟨⟨A, T, st, H, n, m, C, S, W, ht, hs, cs, hP⟩, -⟩ := hI'
  have hP' := hP
  obtain ⟨p1, p2, p3, p4, p5, p6⟩ := hP'
  have p4' := p4
  obtain ⟨⟨c1, c2, c3, c4⟩, c5, c6, c7, c8⟩ := p4'
  have hF := hI.f
  have lt5 : (Int32.ofNat C < 5) = (C < 5) := O_lt (b := 5) (by omega) (by decide)
  have eq5 : (Int32.ofNat C = 5) = (C = 5) := O_eq (b := 5) (by omega) (by decide)
  by_cases hC : C < 5
  case neg =>
    refine QI.c hI ⟨-4, ν, ν, ?_, ?_, Fr.rf, Fr.rf, hI.b⟩
    · show ev (d + 28) 64 0 [.ref 28] [] (fx ν) = _
      rw [e_64_0, c5, if_neg (by rw [lt5]; exact hC), e_64_1]
    · show ev (d + 28) 131 0 [.ref 46] [] (fx ν) = _
      rw [e_131_0, c6, if_pos (by rw [eq5]; omega), e_131_1]
  obtain ⟨ch, hx, hR, hM⟩ := tape_ch p2
  obtain ⟨ν1, k1, w1, w2, w3⟩ := s_18 (d + 8) ⟨p2.1, hx, hR⟩ hI.s hF
  have hF1 := k1.1.2.1 hF
  have gw := pCo_gd hx 10 0 [] (Nat.zero_le _) (Nat.le_refl _) (by decide) (fun c hc => by cases hc) (fun c hc => by cases hc)
  have j29 := (k1.2.1 29 (by omega) (by omega)).1
  have j47 := (k1.2.1 47 (by omega) (by omega)).1
  by_cases ok : (pCo ch 10 0 []).1 = true ∧ (pCo ch 10 0 []).2.1 = n
  · obtain ⟨A', hA', e1, co⟩ := w2 ok.1 ok.2
    have e1 : ev (d + 27) 18 0 [.ref 39] [] (fx ν) = some (some (.ref A'), fx ν1) := e1
    obtain ⟨oc, otl⟩ := gw.2 ok.1
    obtain ⟨X, hX⟩ : ∃ X, X = sR (sI ν1 29 1 0) 29 2 (some A') := ⟨_, rfl⟩
    have x3 : gI (fx X) 29 3 + 1 = Int32.ofNat (C + 1) := by
      show gI X 29 3 + 1 = _
      rw [hX, gI_sR, gI_sI, if_neg (by omega), j29, c5, O_p1]
    obtain ⟨ν2, hν2⟩ : ∃ ν2, ν2 = sI X 29 3 (Int32.ofNat (C + 1)) := ⟨_, rfl⟩
    have x4 : gI (fx ν2) 29 3 - 1 = Int32.ofNat C := by
      show gI ν2 29 3 - 1 = _
      rw [hν2, gI_sI, if_pos ⟨rfl, rfl⟩, O_sub1]
    have kX : Kp ν1 ν2 := by
      rw [hν2, hX]
      exact ((Kp.wI (q := 29) (k := 1) _ (by decide) rfl (by omega)).tr (Kp.wR (q := 29) (k := 2) _ (by decide) ⟨by decide, by decide, by decide⟩ (fun h => by omega) (fun h => by omega))).tr (Kp.wI (q := 29) (k := 3) _ (by decide) rfl (by omega))
    have i2 : ∀ q k, ¬ (q = 29 ∧ (k = 1 ∨ k = 3)) → gI ν2 q k = gI ν1 q k := fun q k h => by rw [hν2, gI_sI, if_neg (by omega), hX, gI_sR, gI_sI, if_neg (by omega)]
    have r2 : ∀ q k, gR ν2 q k = if q = 29 ∧ k = 2 then some A' else gR ν1 q k := fun q k => by rw [hν2, gR_sI, hX, gR_sR, gR_sI]
    have a47 : ∀ k, gI ν2 47 k = gI ν 47 k := fun k => by rw [i2 47 k (by omega), j47]
    have cl : ev (d + 28) 64 0 [.ref 28] [] (fx ν) = some (some (.int (Int32.ofNat C)), fx ν2) := by
      rw [e_64_0, c5, if_pos (by rw [lt5]; exact hC), e_64_2, e1]
      show bnd 3 (some (some (rv (some A')), fx ν1)) _ = _
      rw [bnd_3, app1, e_64_3, asN_s, e_64_5, fx_sR _ _ rfl, ← hX, x3, fx_sI, ← hν2, x4]
    have hS2 : Str ν2 := fun i hi => by
      have := k1.str hI.s i hi
      exact ⟨by rw [i2 _ _ (by omega)]; exact this.1, fun j => by rw [i2 _ _ (by omega)]; exact this.2 j⟩
    obtain ⟨ν3, f3, z5, z1, -⟩ := m_131 (d + 1) (ν := ν2) (C := C) (by rw [a47]; exact c6) hC ⟨by rw [a47]; exact p2.2.1, hx, fun p hp => by rw [a47]; exact hM p hp⟩ hS2
    obtain ⟨e2, y1, y2⟩ := z1 ok.1 ok.2
    have e2 : ev (d + 28) 131 0 [.ref 46] [] (fx ν2) = _ := e2
    obtain ⟨ν4, hν4⟩ : ∃ ν4, ν4 = sI (sI ν3 47 3 (Int32.ofNat (C + 1))) 47 6 (Int32.ofNat C) := ⟨_, rfl⟩
    rw [← hν4] at e2
    have kY : Kp ν3 ν4 := by
      rw [hν4]
      exact (Kp.wI (q := 47) (k := 3) _ (by decide) rfl (by omega)).tr (Kp.wI (q := 47) (k := 6) _ (by decide) rfl (by omega))
    have i4 : ∀ q k, ¬ (q = 47 ∧ (k = 3 ∨ k = 6)) → gI ν4 q k = gI ν3 q k := fun q k h => by rw [hν4, gI_sI, if_neg (by omega), gI_sI, if_neg (by omega)]
    have r4 : ∀ q k, gR ν4 q k = gR ν3 q k := fun q k => by rw [hν4]; rfl
    have s47 : I47 ν ν4 C := fun k h2 h3 h5 h6 hA hB => by rw [i4 47 k (by omega), f3.2.2.2.2 k h5 hA hB, a47]
    have s29 : ∀ k, gI ν4 29 k = gI ν2 29 k := fun k => by rw [i4 29 k (by omega), f3.2.2.2.1 29 (by omega) (by omega)]
    have sR2 : ∀ q k, q ≠ 46 → gR ν4 q k = gR ν2 q k := fun q k hq => by rw [r4, f3.2.2.1 q hq]
    have rr : ∀ q k, q = 32 ∨ q = 33 → gR ν4 q k = gR ν q k := fun q k hq => by rw [sR2 q k (by omega), r2, if_neg (by omega), (k1.2.1 q (by omega) (by omega)).2]
    have m3 : gI ν4 47 3 = Int32.ofNat (C + 1) := by rw [hν4, gI_sI, if_neg (by omega), gI_sI, if_pos ⟨rfl, rfl⟩]
    have m6 : gI ν4 47 6 = Int32.ofNat C := by rw [hν4, gI_sI, if_pos ⟨rfl, rfl⟩]
    have kA : Kp ν ν2 := k1.1.tr kX
    have kB : Kp ν2 ν4 := f3.1.tr kY
    have gr := (kA.tr kB).1
    have gr1 := (kX.tr kB).1
    obtain ⟨q1, q2, q3, q4⟩ := wr_rd (μ := ν4) hP gr hF (fun k h1 h2 h3 => by rw [s29, i2 29 k (by omega), j29]) (by rw [s29, hν2, gI_sI, if_neg (by omega), hX, gI_sR, gI_sI, if_pos ⟨rfl, rfl⟩]) (by rw [i4 47 5 (by omega)]; exact z5) s47 (fun k => rr 33 k (Or.inr rfl))
    have zM : msz ν4 = msz ν1 := by
      have e4 : msz ν4 = msz ν3 := by rw [hν4]; rfl
      have e3 : msz ν2 = msz ν1 := by rw [hν2, hX]; rfl
      rw [e4, f3.2.1.1, e3]
    have lM : msl ν4 = msl ν1 := by
      have e4 : msl ν4 = msl ν3 := by rw [hν4]; rfl
      have e3 : msl ν2 = msl ν1 := by rw [hν2, hX]; rfl
      rw [e4, f3.2.1.2, e3]
    refine Kp.ci (x := Int32.ofNat C) hI cl e2 kA kB ?_ ⟨A', T, st, H, 0, m, C + 1, S, W, ht, hs, (pCo ch 10 0 []).2.2, q1, q2, q3, ⟨⟨?_, ?_, oc, ?_⟩, ?_, m3, by omega, ?_⟩, ⟨?_, ?_, p5.2.2.1, ?_⟩, q4⟩ ?_ ?_
    · rw [i4 50 0 (by omega), f3.2.2.2.1 50 (by omega) (by omega), i2 50 0 (by omega), (k1.2.1 50 (by omega) (by omega)).1]
      exact hI.b
    · rw [sR2 29 2 (by omega), r2, if_pos ⟨rfl, rfl⟩]
    · have cb : CoB ν1 A' (pCo ch 10 0 []).2.2 := ⟨co, fun h => absurd h (Nat.not_lt.mpr hA')⟩
      exact cb.gr gr1 hF1
    · refine Or.inr ⟨C, hC, m6, ?_, by have := hx.1; omega, StA_of oc.1 fun j hj => ?_⟩
      · rw [i4 47 _ (by omega)]; exact y1
      · have hj' := hj
        rw [stl_len] at hj'
        rw [i4 47 _ (by omega)]; exact y2 j hj
    · rw [s29, hν2, gI_sI, if_pos ⟨rfl, rfl⟩]
    · intro a ha e
      rw [m6, O_eq (by omega) (by omega)] at e
      omega
    · rw [s29, i2 29 5 (by omega), j29]; exact p5.1
    · have := p5.2.1
      rw [i4 47 2 (by omega), f3.2.2.2.2 2 (by omega) (by omega) (by omega), a47]; exact this
    · exact p5.kp gr hF (by omega) (fun k hk => by omega) (fun k _ => rr 32 k (Or.inl rfl)) s47
    · have := k1.2.2.1; omega
    · have := k1.2.2.2; omega
  · have e1 := w3 ok
    have e1 : ev (d + 27) 18 0 [.ref 39] [] (fx ν) = some (some .null, fx ν1) := e1
    obtain ⟨ν2, hν2⟩ : ∃ ν2, ν2 = sI ν1 29 1 0 := ⟨_, rfl⟩
    have kX : Kp ν1 ν2 := by
      rw [hν2]
      exact Kp.wI (q := 29) (k := 1) _ (by decide) rfl (by omega)
    have i2 : ∀ q k, ¬ (q = 29 ∧ k = 1) → gI ν2 q k = gI ν1 q k := fun q k h => by rw [hν2, gI_sI, if_neg (by omega)]
    have r2 : ∀ q k, gR ν2 q k = gR ν1 q k := fun q k => by rw [hν2, gR_sI]
    have a47 : ∀ k, gI ν2 47 k = gI ν 47 k := fun k => by rw [i2 47 k (by omega), j47]
    have cl : ev (d + 28) 64 0 [.ref 28] [] (fx ν) = some (some (.int ((-10) - Int32.ofNat (pCo ch 10 0 []).2.1)), fx ν2) := by
      rw [e_64_0, c5, if_pos (by rw [lt5]; exact hC), e_64_2, e1]
      show bnd 3 (some (some (rv none), fx ν1)) _ = _
      rw [bnd_3, app1, e_64_3, asN_n, ← hν2, e_64_4, i2 39 5 (by omega), w1]
    have hS2 : Str ν2 := fun i hi => by
      have := k1.str hI.s i hi
      exact ⟨by rw [i2 _ _ (by omega)]; exact this.1, fun j => by rw [i2 _ _ (by omega)]; exact this.2 j⟩
    obtain ⟨ν4, f3, z5, -, z1⟩ := m_131 (d + 1) (ν := ν2) (C := C) (by rw [a47]; exact c6) hC ⟨by rw [a47]; exact p2.2.1, hx, fun p hp => by rw [a47]; exact hM p hp⟩ hS2
    have e2 := z1 ok
    have e2 : ev (d + 28) 131 0 [.ref 46] [] (fx ν2) = _ := e2
    have s47 : I47 ν ν4 C := fun k h2 h3 h5 h6 hA hB => by rw [f3.2.2.2.2 k h5 hA hB, a47]
    have s29 : ∀ k, gI ν4 29 k = gI ν2 29 k := fun k => by rw [f3.2.2.2.1 29 (by omega) (by omega)]
    have rr : ∀ q k, q = 29 ∨ q = 32 ∨ q = 33 → gR ν4 q k = gR ν q k := fun q k hq => by rw [f3.2.2.1 q (by omega), r2, (k1.2.1 q (by omega) (by omega)).2]
    have kA : Kp ν ν2 := k1.1.tr kX
    have gr := (kA.tr f3.1).1
    obtain ⟨q1, q2, q3, q4⟩ := wr_rd (μ := ν4) hP gr hF (fun k h1 h2 h3 => by rw [s29, i2 29 k (by omega), j29]) (by rw [s29, hν2, gI_sI, if_pos ⟨rfl, rfl⟩]) z5 s47 (fun k => rr 33 k (by omega))
    have zM : msz ν4 = msz ν1 := by
      have e3 : msz ν2 = msz ν1 := by rw [hν2]; rfl
      rw [f3.2.1.1, e3]
    have lM : msl ν4 = msl ν1 := by
      have e3 : msl ν2 = msl ν1 := by rw [hν2]; rfl
      rw [f3.2.1.2, e3]
    refine Kp.ci (x := (-10) - Int32.ofNat (pCo ch 10 0 []).2.1) hI cl e2 kA f3.1 ?_ ⟨A, T, st, H, 0, m, C, S, W, ht, hs, cs, q1, q2, q3, ?_, ⟨?_, ?_, p5.2.2.1, ?_⟩, q4⟩ ?_ ?_
    · rw [f3.2.2.2.1 50 (by omega) (by omega), i2 50 0 (by omega), (k1.2.1 50 (by omega) (by omega)).1]
      exact hI.b
    · exact p4.kp (by omega) gr hF (fun a ha => by omega) (by rw [s29, i2 29 3 (by omega), j29]) (rr 29 2 (by omega)) (by rw [f3.2.2.2.2 3 (by omega) (by omega) (by omega), a47]) (by rw [f3.2.2.2.2 6 (by omega) (by omega) (by omega), a47]) s47
    · rw [s29, i2 29 5 (by omega), j29]; exact p5.1
    · have := p5.2.1
      rw [f3.2.2.2.2 2 (by omega) (by omega) (by omega), a47]; exact this
    · exact p5.kp gr hF (by omega) (fun k hk => by omega) (fun k _ => rr 32 k (by omega)) s47
    · have := k1.2.2.1; omega
    · have := k1.2.2.2; omega
